theorem dX7_init_0 : decode cX7_init 0 = .ok (.aload_n 0, 1) := by decide +kernel
theorem dX7_init_1 : decode cX7_init 1 = .ok (.invokespecial 7, 3) := by decide +kernel
theorem dX7_init_4 : decode cX7_init 4 = .ok (.aload_n 0, 1) := by decide +kernel
theorem dX7_init_5 : decode cX7_init 5 = .ok (.iconst (-1), 1) := by decide +kernel
theorem dX7_init_6 : decode cX7_init 6 = .ok (.putfield 13, 3) := by decide +kernel
theorem dX7_init_9 : decode cX7_init 9 = .ok (.aload_n 0, 1) := by decide +kernel
theorem dX7_init_10 : decode cX7_init 10 = .ok (.aload_n 1, 1) := by decide +kernel
theorem dX7_init_11 : decode cX7_init 11 = .ok (.putfield 17, 3) := by decide +kernel
theorem dX7_init_14 : decode cX7_init 14 = .ok (.aload_n 0, 1) := by decide +kernel
theorem dX7_init_15 : decode cX7_init 15 = .ok (.bipush 19, 2) := by decide +kernel
theorem dX7_init_17 : decode cX7_init 17 = .ok (.newarray .long, 2) := by decide +kernel
theorem dX7_init_19 : decode cX7_init 19 = .ok (.putfield 21, 3) := by decide +kernel
theorem dX7_init_22 : decode cX7_init 22 = .ok (.aload_n 0, 1) := by decide +kernel
theorem dX7_init_23 : decode cX7_init 23 = .ok (.bipush 24, 2) := by decide +kernel
theorem dX7_init_25 : decode cX7_init 25 = .ok (.newarray .long, 2) := by decide +kernel
theorem dX7_init_27 : decode cX7_init 27 = .ok (.putfield 25, 3) := by decide +kernel
theorem dX7_init_30 : decode cX7_init 30 = .ok (.iconst 0, 1) := by decide +kernel
theorem dX7_init_31 : decode cX7_init 31 = .ok (.istore_n 2, 1) := by decide +kernel
theorem dX7_init_32 : decode cX7_init 32 = .ok (.iconst 0, 1) := by decide +kernel
theorem dX7_init_33 : decode cX7_init 33 = .ok (.istore_n 3, 1) := by decide +kernel
theorem dX7_init_34 : decode cX7_init 34 = .ok (.iload_n 3, 1) := by decide +kernel
theorem dX7_init_35 : decode cX7_init 35 = .ok (.ldc 28, 2) := by decide +kernel
theorem dX7_init_37 : decode cX7_init 37 = .ok (.invokevirtual 30, 3) := by decide +kernel
theorem dX7_init_40 : decode cX7_init 40 = .ok (.if_icmp .ge 59, 3) := by decide +kernel
theorem dX7_init_43 : decode cX7_init 43 = .ok (.iload_n 2, 1) := by decide +kernel
theorem dX7_init_44 : decode cX7_init 44 = .ok (.bipush 24, 2) := by decide +kernel
theorem dX7_init_46 : decode cX7_init 46 = .ok (.if_icmp .ge 53, 3) := by decide +kernel
theorem dX7_init_49 : decode cX7_init 49 = .ok (.ldc 28, 2) := by decide +kernel
theorem dX7_init_51 : decode cX7_init 51 = .ok (.iload_n 3, 1) := by decide +kernel
theorem dX7_init_52 : decode cX7_init 52 = .ok (.invokevirtual 36, 3) := by decide +kernel
theorem dX7_init_55 : decode cX7_init 55 = .ok (.bipush 32, 2) := by decide +kernel
theorem dX7_init_57 : decode cX7_init 57 = .ok (.if_icmp .ne 9, 3) := by decide +kernel
theorem dX7_init_60 : decode cX7_init 60 = .ok (.iinc 2 1, 3) := by decide +kernel
theorem dX7_init_63 : decode cX7_init 63 = .ok (.goto 30, 3) := by decide +kernel
theorem dX7_init_66 : decode cX7_init 66 = .ok (.aload_n 0, 1) := by decide +kernel
theorem dX7_init_67 : decode cX7_init 67 = .ok (.getfield 25, 3) := by decide +kernel
theorem dX7_init_70 : decode cX7_init 70 = .ok (.iload_n 2, 1) := by decide +kernel
theorem dX7_init_71 : decode cX7_init 71 = .ok (.aload_n 0, 1) := by decide +kernel
theorem dX7_init_72 : decode cX7_init 72 = .ok (.getfield 25, 3) := by decide +kernel
theorem dX7_init_75 : decode cX7_init 75 = .ok (.iload_n 2, 1) := by decide +kernel
theorem dX7_init_76 : decode cX7_init 76 = .ok (.laload, 1) := by decide +kernel
theorem dX7_init_77 : decode cX7_init 77 = .ok (.iconst 5, 1) := by decide +kernel
theorem dX7_init_78 : decode cX7_init 78 = .ok (.lshl, 1) := by decide +kernel
theorem dX7_init_79 : decode cX7_init 79 = .ok (.ldc 28, 2) := by decide +kernel
theorem dX7_init_81 : decode cX7_init 81 = .ok (.iload_n 3, 1) := by decide +kernel
theorem dX7_init_82 : decode cX7_init 82 = .ok (.invokevirtual 36, 3) := by decide +kernel
theorem dX7_init_85 : decode cX7_init 85 = .ok (.bipush 97, 2) := by decide +kernel
theorem dX7_init_87 : decode cX7_init 87 = .ok (.isub, 1) := by decide +kernel
theorem dX7_init_88 : decode cX7_init 88 = .ok (.iconst 1, 1) := by decide +kernel
theorem dX7_init_89 : decode cX7_init 89 = .ok (.iadd, 1) := by decide +kernel
theorem dX7_init_90 : decode cX7_init 90 = .ok (.i2l, 1) := by decide +kernel
theorem dX7_init_91 : decode cX7_init 91 = .ok (.lor, 1) := by decide +kernel
theorem dX7_init_92 : decode cX7_init 92 = .ok (.lastore, 1) := by decide +kernel
theorem dX7_init_93 : decode cX7_init 93 = .ok (.iinc 3 1, 3) := by decide +kernel
theorem dX7_init_96 : decode cX7_init 96 = .ok (.goto (-62), 3) := by decide +kernel
theorem dX7_init_99 : decode cX7_init 99 = .ok (.return_, 1) := by decide +kernel
theorem dX7_readAll_0 : decode cX7_readAll 0 = .ok (.aload_n 0, 1) := by decide +kernel
theorem dX7_readAll_1 : decode cX7_readAll 1 = .ok (.iconst 0, 1) := by decide +kernel
theorem dX7_readAll_2 : decode cX7_readAll 2 = .ok (.putfield 40, 3) := by decide +kernel
theorem dX7_readAll_5 : decode cX7_readAll 5 = .ok (.aload_n 0, 1) := by decide +kernel
theorem dX7_readAll_6 : decode cX7_readAll 6 = .ok (.iconst (-1), 1) := by decide +kernel
theorem dX7_readAll_7 : decode cX7_readAll 7 = .ok (.putfield 13, 3) := by decide +kernel
theorem dX7_readAll_10 : decode cX7_readAll 10 = .ok (.aload_n 0, 1) := by decide +kernel
theorem dX7_readAll_11 : decode cX7_readAll 11 = .ok (.iload_n 1, 1) := by decide +kernel
theorem dX7_readAll_12 : decode cX7_readAll 12 = .ok (.aload_n 0, 1) := by decide +kernel
theorem dX7_readAll_13 : decode cX7_readAll 13 = .ok (.getfield 17, 3) := by decide +kernel
theorem dX7_readAll_16 : decode cX7_readAll 16 = .ok (.arraylength, 1) := by decide +kernel
theorem dX7_readAll_17 : decode cX7_readAll 17 = .ok (.invokestatic 43, 3) := by decide +kernel
theorem dX7_readAll_20 : decode cX7_readAll 20 = .ok (.putfield 49, 3) := by decide +kernel
theorem dX7_readAll_23 : decode cX7_readAll 23 = .ok (.aload_n 0, 1) := by decide +kernel
theorem dX7_readAll_24 : decode cX7_readAll 24 = .ok (.iconst 0, 1) := by decide +kernel
theorem dX7_readAll_25 : decode cX7_readAll 25 = .ok (.putfield 51, 3) := by decide +kernel
theorem dX7_readAll_28 : decode cX7_readAll 28 = .ok (.aload_n 0, 1) := by decide +kernel
theorem dX7_readAll_29 : decode cX7_readAll 29 = .ok (.iconst 0, 1) := by decide +kernel
theorem dX7_readAll_30 : decode cX7_readAll 30 = .ok (.putfield 54, 3) := by decide +kernel
theorem dX7_readAll_33 : decode cX7_readAll 33 = .ok (.aload_n 2, 1) := by decide +kernel
theorem dX7_readAll_34 : decode cX7_readAll 34 = .ok (.invokevirtual 57, 3) := by decide +kernel
theorem dX7_readAll_37 : decode cX7_readAll 37 = .ok (.aload_n 0, 1) := by decide +kernel
theorem dX7_readAll_38 : decode cX7_readAll 38 = .ok (.invokevirtual 62, 3) := by decide +kernel
theorem dX7_readAll_41 : decode cX7_readAll 41 = .ok (.aload_n 0, 1) := by decide +kernel
theorem dX7_readAll_42 : decode cX7_readAll 42 = .ok (.iconst 0, 1) := by decide +kernel
theorem dX7_readAll_43 : decode cX7_readAll 43 = .ok (.putfield 65, 3) := by decide +kernel
theorem dX7_readAll_46 : decode cX7_readAll 46 = .ok (.aload_n 0, 1) := by decide +kernel
theorem dX7_readAll_47 : decode cX7_readAll 47 = .ok (.getfield 65, 3) := by decide +kernel
theorem dX7_readAll_50 : decode cX7_readAll 50 = .ok (.sipush 1600, 3) := by decide +kernel
theorem dX7_readAll_53 : decode cX7_readAll 53 = .ok (.if_icmp .gt 42, 3) := by decide +kernel
theorem dX7_readAll_56 : decode cX7_readAll 56 = .ok (.aload_n 0, 1) := by decide +kernel
theorem dX7_readAll_57 : decode cX7_readAll 57 = .ok (.getfield 68, 3) := by decide +kernel
theorem dX7_readAll_60 : decode cX7_readAll 60 = .ok (.ifCond .eq 35, 3) := by decide +kernel
theorem dX7_readAll_63 : decode cX7_readAll 63 = .ok (.aload_n 0, 1) := by decide +kernel
theorem dX7_readAll_64 : decode cX7_readAll 64 = .ok (.aload_n 2, 1) := by decide +kernel
theorem dX7_readAll_65 : decode cX7_readAll 65 = .ok (.invokevirtual 71, 3) := by decide +kernel
theorem dX7_readAll_68 : decode cX7_readAll 68 = .ok (.ifCond .eq 12, 3) := by decide +kernel
theorem dX7_readAll_71 : decode cX7_readAll 71 = .ok (.aload_n 0, 1) := by decide +kernel
theorem dX7_readAll_72 : decode cX7_readAll 72 = .ok (.bipush 59, 2) := by decide +kernel
theorem dX7_readAll_74 : decode cX7_readAll 74 = .ok (.invokevirtual 75, 3) := by decide +kernel
theorem dX7_readAll_77 : decode cX7_readAll 77 = .ok (.ifCond .ne 5, 3) := by decide +kernel
theorem dX7_readAll_80 : decode cX7_readAll 80 = .ok (.iconst 0, 1) := by decide +kernel
theorem dX7_readAll_81 : decode cX7_readAll 81 = .ok (.ireturn, 1) := by decide +kernel
theorem dX7_readAll_82 : decode cX7_readAll 82 = .ok (.aload_n 0, 1) := by decide +kernel
theorem dX7_readAll_83 : decode cX7_readAll 83 = .ok (.dup, 1) := by decide +kernel
theorem dX7_readAll_84 : decode cX7_readAll 84 = .ok (.getfield 65, 3) := by decide +kernel
theorem dX7_readAll_87 : decode cX7_readAll 87 = .ok (.iconst 1, 1) := by decide +kernel
theorem dX7_readAll_88 : decode cX7_readAll 88 = .ok (.iadd, 1) := by decide +kernel
theorem dX7_readAll_89 : decode cX7_readAll 89 = .ok (.putfield 65, 3) := by decide +kernel
theorem dX7_readAll_92 : decode cX7_readAll 92 = .ok (.goto (-46), 3) := by decide +kernel
theorem dX7_readAll_95 : decode cX7_readAll 95 = .ok (.aload_n 2, 1) := by decide +kernel
theorem dX7_readAll_96 : decode cX7_readAll 96 = .ok (.getfield 79, 3) := by decide +kernel
theorem dX7_readAll_99 : decode cX7_readAll 99 = .ok (.invokevirtual 83, 3) := by decide +kernel
theorem dX7_readAll_102 : decode cX7_readAll 102 = .ok (.iconst 1, 1) := by decide +kernel
theorem dX7_readAll_103 : decode cX7_readAll 103 = .ok (.ireturn, 1) := by decide +kernel
theorem dX7_readLine_0 : decode cX7_readLine 0 = .ok (.aload_n 0, 1) := by decide +kernel
theorem dX7_readLine_1 : decode cX7_readLine 1 = .ok (.getfield 68, 3) := by decide +kernel
theorem dX7_readLine_4 : decode cX7_readLine 4 = .ok (.iconst 1, 1) := by decide +kernel
theorem dX7_readLine_5 : decode cX7_readLine 5 = .ok (.if_icmp .ne 10, 3) := by decide +kernel
theorem dX7_readLine_8 : decode cX7_readLine 8 = .ok (.aload_n 0, 1) := by decide +kernel
theorem dX7_readLine_9 : decode cX7_readLine 9 = .ok (.getfield 88, 3) := by decide +kernel
theorem dX7_readLine_12 : decode cX7_readLine 12 = .ok (.goto 4, 3) := by decide +kernel
theorem dX7_readLine_15 : decode cX7_readLine 15 = .ok (.iconst (-1), 1) := by decide +kernel
theorem dX7_readLine_16 : decode cX7_readLine 16 = .ok (.tableswitch 126 0 8 #[52, 58, 64, 70, 76, 82, 88, 114, 120], 52) := by decide +kernel
theorem dX7_readLine_68 : decode cX7_readLine 68 = .ok (.aload_n 0, 1) := by decide +kernel
theorem dX7_readLine_69 : decode cX7_readLine 69 = .ok (.aload_n 1, 1) := by decide +kernel
theorem dX7_readLine_70 : decode cX7_readLine 70 = .ok (.invokevirtual 91, 3) := by decide +kernel
theorem dX7_readLine_73 : decode cX7_readLine 73 = .ok (.ireturn, 1) := by decide +kernel
theorem dX7_readLine_74 : decode cX7_readLine 74 = .ok (.aload_n 0, 1) := by decide +kernel
theorem dX7_readLine_75 : decode cX7_readLine 75 = .ok (.aload_n 1, 1) := by decide +kernel
theorem dX7_readLine_76 : decode cX7_readLine 76 = .ok (.invokevirtual 94, 3) := by decide +kernel
theorem dX7_readLine_79 : decode cX7_readLine 79 = .ok (.ireturn, 1) := by decide +kernel
theorem dX7_readLine_80 : decode cX7_readLine 80 = .ok (.aload_n 0, 1) := by decide +kernel
theorem dX7_readLine_81 : decode cX7_readLine 81 = .ok (.aload_n 1, 1) := by decide +kernel
theorem dX7_readLine_82 : decode cX7_readLine 82 = .ok (.invokevirtual 97, 3) := by decide +kernel
theorem dX7_readLine_85 : decode cX7_readLine 85 = .ok (.ireturn, 1) := by decide +kernel
theorem dX7_readLine_86 : decode cX7_readLine 86 = .ok (.aload_n 0, 1) := by decide +kernel
theorem dX7_readLine_87 : decode cX7_readLine 87 = .ok (.aload_n 1, 1) := by decide +kernel
theorem dX7_readLine_88 : decode cX7_readLine 88 = .ok (.invokevirtual 100, 3) := by decide +kernel
theorem dX7_readLine_91 : decode cX7_readLine 91 = .ok (.ireturn, 1) := by decide +kernel
theorem dX7_readLine_92 : decode cX7_readLine 92 = .ok (.aload_n 0, 1) := by decide +kernel
theorem dX7_readLine_93 : decode cX7_readLine 93 = .ok (.aload_n 1, 1) := by decide +kernel
theorem dX7_readLine_94 : decode cX7_readLine 94 = .ok (.invokevirtual 103, 3) := by decide +kernel
theorem dX7_readLine_97 : decode cX7_readLine 97 = .ok (.ireturn, 1) := by decide +kernel
theorem dX7_readLine_98 : decode cX7_readLine 98 = .ok (.aload_n 0, 1) := by decide +kernel
theorem dX7_readLine_99 : decode cX7_readLine 99 = .ok (.aload_n 1, 1) := by decide +kernel
theorem dX7_readLine_100 : decode cX7_readLine 100 = .ok (.invokevirtual 106, 3) := by decide +kernel
theorem dX7_readLine_103 : decode cX7_readLine 103 = .ok (.ireturn, 1) := by decide +kernel
theorem dX7_readLine_104 : decode cX7_readLine 104 = .ok (.aload_n 0, 1) := by decide +kernel
theorem dX7_readLine_105 : decode cX7_readLine 105 = .ok (.invokevirtual 109, 3) := by decide +kernel
theorem dX7_readLine_108 : decode cX7_readLine 108 = .ok (.ifCond .eq 20, 3) := by decide +kernel
theorem dX7_readLine_111 : decode cX7_readLine 111 = .ok (.aload_n 0, 1) := by decide +kernel
theorem dX7_readLine_112 : decode cX7_readLine 112 = .ok (.aload_n 1, 1) := by decide +kernel
theorem dX7_readLine_113 : decode cX7_readLine 113 = .ok (.getfield 113, 3) := by decide +kernel
theorem dX7_readLine_116 : decode cX7_readLine 116 = .ok (.iconst 0, 1) := by decide +kernel
theorem dX7_readLine_117 : decode cX7_readLine 117 = .ok (.iconst 0, 1) := by decide +kernel
theorem dX7_readLine_118 : decode cX7_readLine 118 = .ok (.invokevirtual 117, 3) := by decide +kernel
theorem dX7_readLine_121 : decode cX7_readLine 121 = .ok (.ifCond .eq 7, 3) := by decide +kernel
theorem dX7_readLine_124 : decode cX7_readLine 124 = .ok (.iconst 1, 1) := by decide +kernel
theorem dX7_readLine_125 : decode cX7_readLine 125 = .ok (.goto 4, 3) := by decide +kernel
theorem dX7_readLine_128 : decode cX7_readLine 128 = .ok (.iconst 0, 1) := by decide +kernel
theorem dX7_readLine_129 : decode cX7_readLine 129 = .ok (.ireturn, 1) := by decide +kernel
theorem dX7_readLine_130 : decode cX7_readLine 130 = .ok (.aload_n 0, 1) := by decide +kernel
theorem dX7_readLine_131 : decode cX7_readLine 131 = .ok (.aload_n 1, 1) := by decide +kernel
theorem dX7_readLine_132 : decode cX7_readLine 132 = .ok (.invokevirtual 121, 3) := by decide +kernel
theorem dX7_readLine_135 : decode cX7_readLine 135 = .ok (.ireturn, 1) := by decide +kernel
theorem dX7_readLine_136 : decode cX7_readLine 136 = .ok (.aload_n 0, 1) := by decide +kernel
theorem dX7_readLine_137 : decode cX7_readLine 137 = .ok (.aload_n 1, 1) := by decide +kernel
theorem dX7_readLine_138 : decode cX7_readLine 138 = .ok (.invokevirtual 124, 3) := by decide +kernel
theorem dX7_readLine_141 : decode cX7_readLine 141 = .ok (.ireturn, 1) := by decide +kernel
theorem dX7_readLine_142 : decode cX7_readLine 142 = .ok (.aload_n 0, 1) := by decide +kernel
theorem dX7_readLine_143 : decode cX7_readLine 143 = .ok (.invokevirtual 127, 3) := by decide +kernel
theorem dX7_readLine_146 : decode cX7_readLine 146 = .ok (.ireturn, 1) := by decide +kernel
theorem dX7_readStakes_0 : decode cX7_readStakes 0 = .ok (.aload_n 0, 1) := by decide +kernel
theorem dX7_readStakes_1 : decode cX7_readStakes 1 = .ok (.getfield 65, 3) := by decide +kernel
theorem dX7_readStakes_4 : decode cX7_readStakes 4 = .ok (.ifCond .le 8, 3) := by decide +kernel
theorem dX7_readStakes_7 : decode cX7_readStakes 7 = .ok (.aload_n 0, 1) := by decide +kernel
theorem dX7_readStakes_8 : decode cX7_readStakes 8 = .ok (.invokevirtual 127, 3) := by decide +kernel
theorem dX7_readStakes_11 : decode cX7_readStakes 11 = .ok (.ireturn, 1) := by decide +kernel
theorem dX7_readStakes_12 : decode cX7_readStakes 12 = .ok (.aload_n 0, 1) := by decide +kernel
theorem dX7_readStakes_13 : decode cX7_readStakes 13 = .ok (.invokevirtual 62, 3) := by decide +kernel
theorem dX7_readStakes_16 : decode cX7_readStakes 16 = .ok (.aload_n 0, 1) := by decide +kernel
theorem dX7_readStakes_17 : decode cX7_readStakes 17 = .ok (.iconst 2, 1) := by decide +kernel
theorem dX7_readStakes_18 : decode cX7_readStakes 18 = .ok (.bipush 12, 2) := by decide +kernel
theorem dX7_readStakes_20 : decode cX7_readStakes 20 = .ok (.invokevirtual 130, 3) := by decide +kernel
theorem dX7_readStakes_23 : decode cX7_readStakes 23 = .ok (.ifCond .ne 5, 3) := by decide +kernel
theorem dX7_readStakes_26 : decode cX7_readStakes 26 = .ok (.iconst 0, 1) := by decide +kernel
theorem dX7_readStakes_27 : decode cX7_readStakes 27 = .ok (.ireturn, 1) := by decide +kernel
theorem dX7_readStakes_28 : decode cX7_readStakes 28 = .ok (.aload_n 1, 1) := by decide +kernel
theorem dX7_readStakes_29 : decode cX7_readStakes 29 = .ok (.aload_n 0, 1) := by decide +kernel
theorem dX7_readStakes_30 : decode cX7_readStakes 30 = .ok (.getfield 134, 3) := by decide +kernel
theorem dX7_readStakes_33 : decode cX7_readStakes 33 = .ok (.putfield 137, 3) := by decide +kernel
theorem dX7_readStakes_36 : decode cX7_readStakes 36 = .ok (.iconst 1, 1) := by decide +kernel
theorem dX7_readStakes_37 : decode cX7_readStakes 37 = .ok (.ireturn, 1) := by decide +kernel
theorem dX7_readPlant_0 : decode cX7_readPlant 0 = .ok (.aload_n 1, 1) := by decide +kernel
theorem dX7_readPlant_1 : decode cX7_readPlant 1 = .ok (.getfield 140, 3) := by decide +kernel
theorem dX7_readPlant_4 : decode cX7_readPlant 4 = .ok (.istore_n 2, 1) := by decide +kernel
theorem dX7_readPlant_5 : decode cX7_readPlant 5 = .ok (.aload_n 0, 1) := by decide +kernel
theorem dX7_readPlant_6 : decode cX7_readPlant 6 = .ok (.iconst 0, 1) := by decide +kernel
theorem dX7_readPlant_7 : decode cX7_readPlant 7 = .ok (.iload_n 2, 1) := by decide +kernel
theorem dX7_readPlant_8 : decode cX7_readPlant 8 = .ok (.iconst 4, 1) := by decide +kernel
theorem dX7_readPlant_9 : decode cX7_readPlant 9 = .ok (.invokevirtual 143, 3) := by decide +kernel
theorem dX7_readPlant_12 : decode cX7_readPlant 12 = .ok (.ifCond .eq 22, 3) := by decide +kernel
theorem dX7_readPlant_15 : decode cX7_readPlant 15 = .ok (.aload_n 0, 1) := by decide +kernel
theorem dX7_readPlant_16 : decode cX7_readPlant 16 = .ok (.bipush 9, 2) := by decide +kernel
theorem dX7_readPlant_18 : decode cX7_readPlant 18 = .ok (.invokevirtual 147, 3) := by decide +kernel
theorem dX7_readPlant_21 : decode cX7_readPlant 21 = .ok (.ifCond .eq 13, 3) := by decide +kernel
theorem dX7_readPlant_24 : decode cX7_readPlant 24 = .ok (.aload_n 0, 1) := by decide +kernel
theorem dX7_readPlant_25 : decode cX7_readPlant 25 = .ok (.iconst 1, 1) := by decide +kernel
theorem dX7_readPlant_26 : decode cX7_readPlant 26 = .ok (.bipush 99, 2) := by decide +kernel
theorem dX7_readPlant_28 : decode cX7_readPlant 28 = .ok (.invokevirtual 130, 3) := by decide +kernel
theorem dX7_readPlant_31 : decode cX7_readPlant 31 = .ok (.ifCond .ne 5, 3) := by decide +kernel
theorem dX7_readPlant_34 : decode cX7_readPlant 34 = .ok (.iconst 0, 1) := by decide +kernel
theorem dX7_readPlant_35 : decode cX7_readPlant 35 = .ok (.ireturn, 1) := by decide +kernel
theorem dX7_readPlant_36 : decode cX7_readPlant 36 = .ok (.iload_n 2, 1) := by decide +kernel
theorem dX7_readPlant_37 : decode cX7_readPlant 37 = .ok (.ifCond .lt 22, 3) := by decide +kernel
theorem dX7_readPlant_40 : decode cX7_readPlant 40 = .ok (.iload_n 2, 1) := by decide +kernel
theorem dX7_readPlant_41 : decode cX7_readPlant 41 = .ok (.aload_n 1, 1) := by decide +kernel
theorem dX7_readPlant_42 : decode cX7_readPlant 42 = .ok (.getfield 150, 3) := by decide +kernel
theorem dX7_readPlant_45 : decode cX7_readPlant 45 = .ok (.arraylength, 1) := by decide +kernel
theorem dX7_readPlant_46 : decode cX7_readPlant 46 = .ok (.if_icmp .ge 13, 3) := by decide +kernel
theorem dX7_readPlant_49 : decode cX7_readPlant 49 = .ok (.aload_n 1, 1) := by decide +kernel
theorem dX7_readPlant_50 : decode cX7_readPlant 50 = .ok (.getfield 150, 3) := by decide +kernel
theorem dX7_readPlant_53 : decode cX7_readPlant 53 = .ok (.iload_n 2, 1) := by decide +kernel
theorem dX7_readPlant_54 : decode cX7_readPlant 54 = .ok (.aload_n 0, 1) := by decide +kernel
theorem dX7_readPlant_55 : decode cX7_readPlant 55 = .ok (.getfield 134, 3) := by decide +kernel
theorem dX7_readPlant_58 : decode cX7_readPlant 58 = .ok (.iastore, 1) := by decide +kernel
theorem dX7_readPlant_59 : decode cX7_readPlant 59 = .ok (.aload_n 0, 1) := by decide +kernel
theorem dX7_readPlant_60 : decode cX7_readPlant 60 = .ok (.bipush 10, 2) := by decide +kernel
theorem dX7_readPlant_62 : decode cX7_readPlant 62 = .ok (.invokevirtual 154, 3) := by decide +kernel
theorem dX7_readPlant_65 : decode cX7_readPlant 65 = .ok (.ifCond .eq 19, 3) := by decide +kernel
theorem dX7_readPlant_68 : decode cX7_readPlant 68 = .ok (.aload_n 1, 1) := by decide +kernel
theorem dX7_readPlant_69 : decode cX7_readPlant 69 = .ok (.dup, 1) := by decide +kernel
theorem dX7_readPlant_70 : decode cX7_readPlant 70 = .ok (.getfield 157, 3) := by decide +kernel
theorem dX7_readPlant_73 : decode cX7_readPlant 73 = .ok (.iconst 1, 1) := by decide +kernel
theorem dX7_readPlant_74 : decode cX7_readPlant 74 = .ok (.iload_n 2, 1) := by decide +kernel
theorem dX7_readPlant_75 : decode cX7_readPlant 75 = .ok (.ishl, 1) := by decide +kernel
theorem dX7_readPlant_76 : decode cX7_readPlant 76 = .ok (.ior, 1) := by decide +kernel
theorem dX7_readPlant_77 : decode cX7_readPlant 77 = .ok (.putfield 157, 3) := by decide +kernel
theorem dX7_readPlant_80 : decode cX7_readPlant 80 = .ok (.aload_n 0, 1) := by decide +kernel
theorem dX7_readPlant_81 : decode cX7_readPlant 81 = .ok (.invokevirtual 62, 3) := by decide +kernel
theorem dX7_readPlant_84 : decode cX7_readPlant 84 = .ok (.aload_n 1, 1) := by decide +kernel
theorem dX7_readPlant_85 : decode cX7_readPlant 85 = .ok (.dup, 1) := by decide +kernel
theorem dX7_readPlant_86 : decode cX7_readPlant 86 = .ok (.getfield 140, 3) := by decide +kernel
theorem dX7_readPlant_89 : decode cX7_readPlant 89 = .ok (.iconst 1, 1) := by decide +kernel
theorem dX7_readPlant_90 : decode cX7_readPlant 90 = .ok (.iadd, 1) := by decide +kernel
theorem dX7_readPlant_91 : decode cX7_readPlant 91 = .ok (.putfield 140, 3) := by decide +kernel
theorem dX7_readPlant_94 : decode cX7_readPlant 94 = .ok (.iconst 1, 1) := by decide +kernel
theorem dX7_readPlant_95 : decode cX7_readPlant 95 = .ok (.ireturn, 1) := by decide +kernel
theorem dX7_readTopic_0 : decode cX7_readTopic 0 = .ok (.aload_n 0, 1) := by decide +kernel
theorem dX7_readTopic_1 : decode cX7_readTopic 1 = .ok (.iconst 4, 1) := by decide +kernel
theorem dX7_readTopic_2 : decode cX7_readTopic 2 = .ok (.aload_n 1, 1) := by decide +kernel
theorem dX7_readTopic_3 : decode cX7_readTopic 3 = .ok (.getfield 160, 3) := by decide +kernel
theorem dX7_readTopic_6 : decode cX7_readTopic 6 = .ok (.iconst 4, 1) := by decide +kernel
theorem dX7_readTopic_7 : decode cX7_readTopic 7 = .ok (.invokevirtual 143, 3) := by decide +kernel
theorem dX7_readTopic_10 : decode cX7_readTopic 10 = .ok (.ifCond .ne 5, 3) := by decide +kernel
theorem dX7_readTopic_13 : decode cX7_readTopic 13 = .ok (.iconst 0, 1) := by decide +kernel
theorem dX7_readTopic_14 : decode cX7_readTopic 14 = .ok (.ireturn, 1) := by decide +kernel
theorem dX7_readTopic_15 : decode cX7_readTopic 15 = .ok (.aload_n 1, 1) := by decide +kernel
theorem dX7_readTopic_16 : decode cX7_readTopic 16 = .ok (.dup, 1) := by decide +kernel
theorem dX7_readTopic_17 : decode cX7_readTopic 17 = .ok (.getfield 160, 3) := by decide +kernel
theorem dX7_readTopic_20 : decode cX7_readTopic 20 = .ok (.iconst 1, 1) := by decide +kernel
theorem dX7_readTopic_21 : decode cX7_readTopic 21 = .ok (.iadd, 1) := by decide +kernel
theorem dX7_readTopic_22 : decode cX7_readTopic 22 = .ok (.putfield 160, 3) := by decide +kernel
theorem dX7_readTopic_25 : decode cX7_readTopic 25 = .ok (.iconst 1, 1) := by decide +kernel
theorem dX7_readTopic_26 : decode cX7_readTopic 26 = .ok (.ireturn, 1) := by decide +kernel
theorem dX7_readParty_0 : decode cX7_readParty 0 = .ok (.aload_n 0, 1) := by decide +kernel
theorem dX7_readParty_1 : decode cX7_readParty 1 = .ok (.bipush 16, 2) := by decide +kernel
theorem dX7_readParty_3 : decode cX7_readParty 3 = .ok (.aload_n 1, 1) := by decide +kernel
theorem dX7_readParty_4 : decode cX7_readParty 4 = .ok (.getfield 163, 3) := by decide +kernel
theorem dX7_readParty_7 : decode cX7_readParty 7 = .ok (.iconst 3, 1) := by decide +kernel
theorem dX7_readParty_8 : decode cX7_readParty 8 = .ok (.invokevirtual 143, 3) := by decide +kernel
theorem dX7_readParty_11 : decode cX7_readParty 11 = .ok (.ifCond .ne 5, 3) := by decide +kernel
theorem dX7_readParty_14 : decode cX7_readParty 14 = .ok (.iconst 0, 1) := by decide +kernel
theorem dX7_readParty_15 : decode cX7_readParty 15 = .ok (.ireturn, 1) := by decide +kernel
theorem dX7_readParty_16 : decode cX7_readParty 16 = .ok (.aload_n 1, 1) := by decide +kernel
theorem dX7_readParty_17 : decode cX7_readParty 17 = .ok (.dup, 1) := by decide +kernel
theorem dX7_readParty_18 : decode cX7_readParty 18 = .ok (.getfield 163, 3) := by decide +kernel
theorem dX7_readParty_21 : decode cX7_readParty 21 = .ok (.iconst 1, 1) := by decide +kernel
theorem dX7_readParty_22 : decode cX7_readParty 22 = .ok (.iadd, 1) := by decide +kernel
theorem dX7_readParty_23 : decode cX7_readParty 23 = .ok (.putfield 163, 3) := by decide +kernel
theorem dX7_readParty_26 : decode cX7_readParty 26 = .ok (.iconst 1, 1) := by decide +kernel
theorem dX7_readParty_27 : decode cX7_readParty 27 = .ok (.ireturn, 1) := by decide +kernel
theorem dX7_readBill_0 : decode cX7_readBill 0 = .ok (.aload_n 1, 1) := by decide +kernel
theorem dX7_readBill_1 : decode cX7_readBill 1 = .ok (.getfield 166, 3) := by decide +kernel
theorem dX7_readBill_4 : decode cX7_readBill 4 = .ok (.istore_n 2, 1) := by decide +kernel
theorem dX7_readBill_5 : decode cX7_readBill 5 = .ok (.aload_n 0, 1) := by decide +kernel
theorem dX7_readBill_6 : decode cX7_readBill 6 = .ok (.bipush 8, 2) := by decide +kernel
theorem dX7_readBill_8 : decode cX7_readBill 8 = .ok (.iload_n 2, 1) := by decide +kernel
theorem dX7_readBill_9 : decode cX7_readBill 9 = .ok (.bipush 8, 2) := by decide +kernel
theorem dX7_readBill_11 : decode cX7_readBill 11 = .ok (.invokevirtual 143, 3) := by decide +kernel
theorem dX7_readBill_14 : decode cX7_readBill 14 = .ok (.ifCond .eq 24, 3) := by decide +kernel
theorem dX7_readBill_17 : decode cX7_readBill 17 = .ok (.aload_n 0, 1) := by decide +kernel
theorem dX7_readBill_18 : decode cX7_readBill 18 = .ok (.bipush 11, 2) := by decide +kernel
theorem dX7_readBill_20 : decode cX7_readBill 20 = .ok (.invokevirtual 147, 3) := by decide +kernel
theorem dX7_readBill_23 : decode cX7_readBill 23 = .ok (.ifCond .eq 15, 3) := by decide +kernel
theorem dX7_readBill_26 : decode cX7_readBill 26 = .ok (.aload_n 0, 1) := by decide +kernel
theorem dX7_readBill_27 : decode cX7_readBill 27 = .ok (.iconst 0, 1) := by decide +kernel
theorem dX7_readBill_28 : decode cX7_readBill 28 = .ok (.aload_n 1, 1) := by decide +kernel
theorem dX7_readBill_29 : decode cX7_readBill 29 = .ok (.getfield 140, 3) := by decide +kernel
theorem dX7_readBill_32 : decode cX7_readBill 32 = .ok (.invokevirtual 169, 3) := by decide +kernel
theorem dX7_readBill_35 : decode cX7_readBill 35 = .ok (.ifCond .ne 5, 3) := by decide +kernel
theorem dX7_readBill_38 : decode cX7_readBill 38 = .ok (.iconst 0, 1) := by decide +kernel
theorem dX7_readBill_39 : decode cX7_readBill 39 = .ok (.ireturn, 1) := by decide +kernel
theorem dX7_readBill_40 : decode cX7_readBill 40 = .ok (.aload_n 0, 1) := by decide +kernel
theorem dX7_readBill_41 : decode cX7_readBill 41 = .ok (.getfield 134, 3) := by decide +kernel
theorem dX7_readBill_44 : decode cX7_readBill 44 = .ok (.istore_n 3, 1) := by decide +kernel
theorem dX7_readBill_45 : decode cX7_readBill 45 = .ok (.aload_n 0, 1) := by decide +kernel
theorem dX7_readBill_46 : decode cX7_readBill 46 = .ok (.bipush 12, 2) := by decide +kernel
theorem dX7_readBill_48 : decode cX7_readBill 48 = .ok (.invokevirtual 147, 3) := by decide +kernel
theorem dX7_readBill_51 : decode cX7_readBill 51 = .ok (.ifCond .eq 17, 3) := by decide +kernel
theorem dX7_readBill_54 : decode cX7_readBill 54 = .ok (.aload_n 0, 1) := by decide +kernel
theorem dX7_readBill_55 : decode cX7_readBill 55 = .ok (.iconst 0, 1) := by decide +kernel
theorem dX7_readBill_56 : decode cX7_readBill 56 = .ok (.aload_n 1, 1) := by decide +kernel
theorem dX7_readBill_57 : decode cX7_readBill 57 = .ok (.getfield 137, 3) := by decide +kernel
theorem dX7_readBill_60 : decode cX7_readBill 60 = .ok (.iconst 1, 1) := by decide +kernel
theorem dX7_readBill_61 : decode cX7_readBill 61 = .ok (.isub, 1) := by decide +kernel
theorem dX7_readBill_62 : decode cX7_readBill 62 = .ok (.invokevirtual 130, 3) := by decide +kernel
theorem dX7_readBill_65 : decode cX7_readBill 65 = .ok (.ifCond .ne 5, 3) := by decide +kernel
theorem dX7_readBill_68 : decode cX7_readBill 68 = .ok (.iconst 0, 1) := by decide +kernel
theorem dX7_readBill_69 : decode cX7_readBill 69 = .ok (.ireturn, 1) := by decide +kernel
theorem dX7_readBill_70 : decode cX7_readBill 70 = .ok (.aload_n 0, 1) := by decide +kernel
theorem dX7_readBill_71 : decode cX7_readBill 71 = .ok (.getfield 134, 3) := by decide +kernel
theorem dX7_readBill_74 : decode cX7_readBill 74 = .ok (.istore 4, 2) := by decide +kernel
theorem dX7_readBill_76 : decode cX7_readBill 76 = .ok (.iconst (-1), 1) := by decide +kernel
theorem dX7_readBill_77 : decode cX7_readBill 77 = .ok (.istore 5, 2) := by decide +kernel
theorem dX7_readBill_79 : decode cX7_readBill 79 = .ok (.iconst 0, 1) := by decide +kernel
theorem dX7_readBill_80 : decode cX7_readBill 80 = .ok (.istore 6, 2) := by decide +kernel
theorem dX7_readBill_82 : decode cX7_readBill 82 = .ok (.aload_n 0, 1) := by decide +kernel
theorem dX7_readBill_83 : decode cX7_readBill 83 = .ok (.bipush 13, 2) := by decide +kernel
theorem dX7_readBill_85 : decode cX7_readBill 85 = .ok (.invokevirtual 154, 3) := by decide +kernel
theorem dX7_readBill_88 : decode cX7_readBill 88 = .ok (.ifCond .eq 42, 3) := by decide +kernel
theorem dX7_readBill_91 : decode cX7_readBill 91 = .ok (.aload_n 0, 1) := by decide +kernel
theorem dX7_readBill_92 : decode cX7_readBill 92 = .ok (.invokevirtual 62, 3) := by decide +kernel
theorem dX7_readBill_95 : decode cX7_readBill 95 = .ok (.aload_n 0, 1) := by decide +kernel
theorem dX7_readBill_96 : decode cX7_readBill 96 = .ok (.iconst 4, 1) := by decide +kernel
theorem dX7_readBill_97 : decode cX7_readBill 97 = .ok (.aload_n 1, 1) := by decide +kernel
theorem dX7_readBill_98 : decode cX7_readBill 98 = .ok (.getfield 160, 3) := by decide +kernel
theorem dX7_readBill_101 : decode cX7_readBill 101 = .ok (.invokevirtual 169, 3) := by decide +kernel
theorem dX7_readBill_104 : decode cX7_readBill 104 = .ok (.ifCond .ne 5, 3) := by decide +kernel
theorem dX7_readBill_107 : decode cX7_readBill 107 = .ok (.iconst 0, 1) := by decide +kernel
theorem dX7_readBill_108 : decode cX7_readBill 108 = .ok (.ireturn, 1) := by decide +kernel
theorem dX7_readBill_109 : decode cX7_readBill 109 = .ok (.aload_n 0, 1) := by decide +kernel
theorem dX7_readBill_110 : decode cX7_readBill 110 = .ok (.getfield 134, 3) := by decide +kernel
theorem dX7_readBill_113 : decode cX7_readBill 113 = .ok (.istore 5, 2) := by decide +kernel
theorem dX7_readBill_115 : decode cX7_readBill 115 = .ok (.aload_n 0, 1) := by decide +kernel
theorem dX7_readBill_116 : decode cX7_readBill 116 = .ok (.invokevirtual 172, 3) := by decide +kernel
theorem dX7_readBill_119 : decode cX7_readBill 119 = .ok (.ifCond .ne 5, 3) := by decide +kernel
theorem dX7_readBill_122 : decode cX7_readBill 122 = .ok (.iconst 0, 1) := by decide +kernel
theorem dX7_readBill_123 : decode cX7_readBill 123 = .ok (.ireturn, 1) := by decide +kernel
theorem dX7_readBill_124 : decode cX7_readBill 124 = .ok (.aload_n 0, 1) := by decide +kernel
theorem dX7_readBill_125 : decode cX7_readBill 125 = .ok (.getfield 134, 3) := by decide +kernel
theorem dX7_readBill_128 : decode cX7_readBill 128 = .ok (.istore 6, 2) := by decide +kernel
theorem dX7_readBill_130 : decode cX7_readBill 130 = .ok (.aload_n 0, 1) := by decide +kernel
theorem dX7_readBill_131 : decode cX7_readBill 131 = .ok (.bipush 14, 2) := by decide +kernel
theorem dX7_readBill_133 : decode cX7_readBill 133 = .ok (.iload_n 2, 1) := by decide +kernel
theorem dX7_readBill_134 : decode cX7_readBill 134 = .ok (.invokevirtual 175, 3) := by decide +kernel
theorem dX7_readBill_137 : decode cX7_readBill 137 = .ok (.ifCond .ne 5, 3) := by decide +kernel
theorem dX7_readBill_140 : decode cX7_readBill 140 = .ok (.iconst 0, 1) := by decide +kernel
theorem dX7_readBill_141 : decode cX7_readBill 141 = .ok (.ireturn, 1) := by decide +kernel
theorem dX7_readBill_142 : decode cX7_readBill 142 = .ok (.aload_n 0, 1) := by decide +kernel
theorem dX7_readBill_143 : decode cX7_readBill 143 = .ok (.getfield 134, 3) := by decide +kernel
theorem dX7_readBill_146 : decode cX7_readBill 146 = .ok (.istore 7, 2) := by decide +kernel
theorem dX7_readBill_148 : decode cX7_readBill 148 = .ok (.aload_n 0, 1) := by decide +kernel
theorem dX7_readBill_149 : decode cX7_readBill 149 = .ok (.bipush 15, 2) := by decide +kernel
theorem dX7_readBill_151 : decode cX7_readBill 151 = .ok (.iload_n 2, 1) := by decide +kernel
theorem dX7_readBill_152 : decode cX7_readBill 152 = .ok (.invokevirtual 175, 3) := by decide +kernel
theorem dX7_readBill_155 : decode cX7_readBill 155 = .ok (.ifCond .ne 5, 3) := by decide +kernel
theorem dX7_readBill_158 : decode cX7_readBill 158 = .ok (.iconst 0, 1) := by decide +kernel
theorem dX7_readBill_159 : decode cX7_readBill 159 = .ok (.ireturn, 1) := by decide +kernel
theorem dX7_readBill_160 : decode cX7_readBill 160 = .ok (.aload_n 1, 1) := by decide +kernel
theorem dX7_readBill_161 : decode cX7_readBill 161 = .ok (.getfield 79, 3) := by decide +kernel
theorem dX7_readBill_164 : decode cX7_readBill 164 = .ok (.iload_n 2, 1) := by decide +kernel
theorem dX7_readBill_165 : decode cX7_readBill 165 = .ok (.iload 4, 2) := by decide +kernel
theorem dX7_readBill_167 : decode cX7_readBill 167 = .ok (.iload_n 3, 1) := by decide +kernel
theorem dX7_readBill_168 : decode cX7_readBill 168 = .ok (.iload 5, 2) := by decide +kernel
theorem dX7_readBill_170 : decode cX7_readBill 170 = .ok (.iload 6, 2) := by decide +kernel
theorem dX7_readBill_172 : decode cX7_readBill 172 = .ok (.iload 7, 2) := by decide +kernel
theorem dX7_readBill_174 : decode cX7_readBill 174 = .ok (.aload_n 0, 1) := by decide +kernel
theorem dX7_readBill_175 : decode cX7_readBill 175 = .ok (.getfield 134, 3) := by decide +kernel
theorem dX7_readBill_178 : decode cX7_readBill 178 = .ok (.invokevirtual 178, 3) := by decide +kernel
theorem dX7_readBill_181 : decode cX7_readBill 181 = .ok (.aload_n 1, 1) := by decide +kernel
theorem dX7_readBill_182 : decode cX7_readBill 182 = .ok (.dup, 1) := by decide +kernel
theorem dX7_readBill_183 : decode cX7_readBill 183 = .ok (.getfield 166, 3) := by decide +kernel
theorem dX7_readBill_186 : decode cX7_readBill 186 = .ok (.iconst 1, 1) := by decide +kernel
theorem dX7_readBill_187 : decode cX7_readBill 187 = .ok (.iadd, 1) := by decide +kernel
theorem dX7_readBill_188 : decode cX7_readBill 188 = .ok (.putfield 166, 3) := by decide +kernel
theorem dX7_readBill_191 : decode cX7_readBill 191 = .ok (.iconst 1, 1) := by decide +kernel
theorem dX7_readBill_192 : decode cX7_readBill 192 = .ok (.ireturn, 1) := by decide +kernel
theorem dX7_takeOther_0 : decode cX7_takeOther 0 = .ok (.aload_n 0, 1) := by decide +kernel
theorem dX7_takeOther_1 : decode cX7_takeOther 1 = .ok (.iconst (-1), 1) := by decide +kernel
theorem dX7_takeOther_2 : decode cX7_takeOther 2 = .ok (.putfield 134, 3) := by decide +kernel
theorem dX7_takeOther_5 : decode cX7_takeOther 5 = .ok (.aload_n 0, 1) := by decide +kernel
theorem dX7_takeOther_6 : decode cX7_takeOther 6 = .ok (.iload_n 1, 1) := by decide +kernel
theorem dX7_takeOther_7 : decode cX7_takeOther 7 = .ok (.invokevirtual 154, 3) := by decide +kernel
theorem dX7_takeOther_10 : decode cX7_takeOther 10 = .ok (.ifCond .ne 5, 3) := by decide +kernel
theorem dX7_takeOther_13 : decode cX7_takeOther 13 = .ok (.iconst 1, 1) := by decide +kernel
theorem dX7_takeOther_14 : decode cX7_takeOther 14 = .ok (.ireturn, 1) := by decide +kernel
theorem dX7_takeOther_15 : decode cX7_takeOther 15 = .ok (.aload_n 0, 1) := by decide +kernel
theorem dX7_takeOther_16 : decode cX7_takeOther 16 = .ok (.invokevirtual 62, 3) := by decide +kernel
theorem dX7_takeOther_19 : decode cX7_takeOther 19 = .ok (.aload_n 0, 1) := by decide +kernel
theorem dX7_takeOther_20 : decode cX7_takeOther 20 = .ok (.bipush 8, 2) := by decide +kernel
theorem dX7_takeOther_22 : decode cX7_takeOther 22 = .ok (.iload_n 2, 1) := by decide +kernel
theorem dX7_takeOther_23 : decode cX7_takeOther 23 = .ok (.invokevirtual 169, 3) := by decide +kernel
theorem dX7_takeOther_26 : decode cX7_takeOther 26 = .ok (.ireturn, 1) := by decide +kernel
theorem dX7_readWants_0 : decode cX7_readWants 0 = .ok (.aload_n 0, 1) := by decide +kernel
theorem dX7_readWants_1 : decode cX7_readWants 1 = .ok (.invokevirtual 62, 3) := by decide +kernel
theorem dX7_readWants_4 : decode cX7_readWants 4 = .ok (.aload_n 0, 1) := by decide +kernel
theorem dX7_readWants_5 : decode cX7_readWants 5 = .ok (.bipush 16, 2) := by decide +kernel
theorem dX7_readWants_7 : decode cX7_readWants 7 = .ok (.aload_n 1, 1) := by decide +kernel
theorem dX7_readWants_8 : decode cX7_readWants 8 = .ok (.getfield 163, 3) := by decide +kernel
theorem dX7_readWants_11 : decode cX7_readWants 11 = .ok (.invokevirtual 169, 3) := by decide +kernel
theorem dX7_readWants_14 : decode cX7_readWants 14 = .ok (.ifCond .ne 5, 3) := by decide +kernel
theorem dX7_readWants_17 : decode cX7_readWants 17 = .ok (.iconst 0, 1) := by decide +kernel
theorem dX7_readWants_18 : decode cX7_readWants 18 = .ok (.ireturn, 1) := by decide +kernel
theorem dX7_readWants_19 : decode cX7_readWants 19 = .ok (.aload_n 0, 1) := by decide +kernel
theorem dX7_readWants_20 : decode cX7_readWants 20 = .ok (.getfield 134, 3) := by decide +kernel
theorem dX7_readWants_23 : decode cX7_readWants 23 = .ok (.istore_n 2, 1) := by decide +kernel
theorem dX7_readWants_24 : decode cX7_readWants 24 = .ok (.aload_n 0, 1) := by decide +kernel
theorem dX7_readWants_25 : decode cX7_readWants 25 = .ok (.getfield 182, 3) := by decide +kernel
theorem dX7_readWants_28 : decode cX7_readWants 28 = .ok (.istore_n 3, 1) := by decide +kernel
theorem dX7_readWants_29 : decode cX7_readWants 29 = .ok (.aload_n 0, 1) := by decide +kernel
theorem dX7_readWants_30 : decode cX7_readWants 30 = .ok (.iconst 4, 1) := by decide +kernel
theorem dX7_readWants_31 : decode cX7_readWants 31 = .ok (.aload_n 1, 1) := by decide +kernel
theorem dX7_readWants_32 : decode cX7_readWants 32 = .ok (.getfield 160, 3) := by decide +kernel
theorem dX7_readWants_35 : decode cX7_readWants 35 = .ok (.invokevirtual 169, 3) := by decide +kernel
theorem dX7_readWants_38 : decode cX7_readWants 38 = .ok (.ifCond .ne 5, 3) := by decide +kernel
theorem dX7_readWants_41 : decode cX7_readWants 41 = .ok (.iconst 0, 1) := by decide +kernel
theorem dX7_readWants_42 : decode cX7_readWants 42 = .ok (.ireturn, 1) := by decide +kernel
theorem dX7_readWants_43 : decode cX7_readWants 43 = .ok (.iload_n 2, 1) := by decide +kernel
theorem dX7_readWants_44 : decode cX7_readWants 44 = .ok (.iconst 4, 1) := by decide +kernel
theorem dX7_readWants_45 : decode cX7_readWants 45 = .ok (.imul, 1) := by decide +kernel
theorem dX7_readWants_46 : decode cX7_readWants 46 = .ok (.aload_n 0, 1) := by decide +kernel
theorem dX7_readWants_47 : decode cX7_readWants 47 = .ok (.getfield 134, 3) := by decide +kernel
theorem dX7_readWants_50 : decode cX7_readWants 50 = .ok (.iadd, 1) := by decide +kernel
theorem dX7_readWants_51 : decode cX7_readWants 51 = .ok (.istore 4, 2) := by decide +kernel
theorem dX7_readWants_53 : decode cX7_readWants 53 = .ok (.iload 4, 2) := by decide +kernel
theorem dX7_readWants_55 : decode cX7_readWants 55 = .ok (.ifCond .lt 33, 3) := by decide +kernel
theorem dX7_readWants_58 : decode cX7_readWants 58 = .ok (.iload 4, 2) := by decide +kernel
theorem dX7_readWants_60 : decode cX7_readWants 60 = .ok (.aload_n 1, 1) := by decide +kernel
theorem dX7_readWants_61 : decode cX7_readWants 61 = .ok (.getfield 185, 3) := by decide +kernel
theorem dX7_readWants_64 : decode cX7_readWants 64 = .ok (.arraylength, 1) := by decide +kernel
theorem dX7_readWants_65 : decode cX7_readWants 65 = .ok (.if_icmp .ge 23, 3) := by decide +kernel
theorem dX7_readWants_68 : decode cX7_readWants 68 = .ok (.iload 4, 2) := by decide +kernel
theorem dX7_readWants_70 : decode cX7_readWants 70 = .ok (.aload_n 1, 1) := by decide +kernel
theorem dX7_readWants_71 : decode cX7_readWants 71 = .ok (.getfield 188, 3) := by decide +kernel
theorem dX7_readWants_74 : decode cX7_readWants 74 = .ok (.arraylength, 1) := by decide +kernel
theorem dX7_readWants_75 : decode cX7_readWants 75 = .ok (.if_icmp .ge 13, 3) := by decide +kernel
theorem dX7_readWants_78 : decode cX7_readWants 78 = .ok (.aload_n 1, 1) := by decide +kernel
theorem dX7_readWants_79 : decode cX7_readWants 79 = .ok (.getfield 185, 3) := by decide +kernel
theorem dX7_readWants_82 : decode cX7_readWants 82 = .ok (.iload 4, 2) := by decide +kernel
theorem dX7_readWants_84 : decode cX7_readWants 84 = .ok (.iaload, 1) := by decide +kernel
theorem dX7_readWants_85 : decode cX7_readWants 85 = .ok (.ifCond .eq 10, 3) := by decide +kernel
theorem dX7_readWants_88 : decode cX7_readWants 88 = .ok (.aload_n 0, 1) := by decide +kernel
theorem dX7_readWants_89 : decode cX7_readWants 89 = .ok (.iconst 3, 1) := by decide +kernel
theorem dX7_readWants_90 : decode cX7_readWants 90 = .ok (.iload_n 3, 1) := by decide +kernel
theorem dX7_readWants_91 : decode cX7_readWants 91 = .ok (.invokevirtual 191, 3) := by decide +kernel
theorem dX7_readWants_94 : decode cX7_readWants 94 = .ok (.ireturn, 1) := by decide +kernel
theorem dX7_readWants_95 : decode cX7_readWants 95 = .ok (.aload_n 0, 1) := by decide +kernel
theorem dX7_readWants_96 : decode cX7_readWants 96 = .ok (.invokevirtual 172, 3) := by decide +kernel
theorem dX7_readWants_99 : decode cX7_readWants 99 = .ok (.ifCond .ne 5, 3) := by decide +kernel
theorem dX7_readWants_102 : decode cX7_readWants 102 = .ok (.iconst 0, 1) := by decide +kernel
theorem dX7_readWants_103 : decode cX7_readWants 103 = .ok (.ireturn, 1) := by decide +kernel
theorem dX7_readWants_104 : decode cX7_readWants 104 = .ok (.aload_n 1, 1) := by decide +kernel
theorem dX7_readWants_105 : decode cX7_readWants 105 = .ok (.getfield 188, 3) := by decide +kernel
theorem dX7_readWants_108 : decode cX7_readWants 108 = .ok (.iload 4, 2) := by decide +kernel
theorem dX7_readWants_110 : decode cX7_readWants 110 = .ok (.aload_n 0, 1) := by decide +kernel
theorem dX7_readWants_111 : decode cX7_readWants 111 = .ok (.getfield 134, 3) := by decide +kernel
theorem dX7_readWants_114 : decode cX7_readWants 114 = .ok (.iastore, 1) := by decide +kernel
theorem dX7_readWants_115 : decode cX7_readWants 115 = .ok (.aload_n 0, 1) := by decide +kernel
theorem dX7_readWants_116 : decode cX7_readWants 116 = .ok (.bipush 16, 2) := by decide +kernel
theorem dX7_readWants_118 : decode cX7_readWants 118 = .ok (.invokevirtual 147, 3) := by decide +kernel
theorem dX7_readWants_121 : decode cX7_readWants 121 = .ok (.ifCond .eq 13, 3) := by decide +kernel
theorem dX7_readWants_124 : decode cX7_readWants 124 = .ok (.aload_n 0, 1) := by decide +kernel
theorem dX7_readWants_125 : decode cX7_readWants 125 = .ok (.iconst 1, 1) := by decide +kernel
theorem dX7_readWants_126 : decode cX7_readWants 126 = .ok (.bipush 9, 2) := by decide +kernel
theorem dX7_readWants_128 : decode cX7_readWants 128 = .ok (.invokevirtual 130, 3) := by decide +kernel
theorem dX7_readWants_131 : decode cX7_readWants 131 = .ok (.ifCond .ne 5, 3) := by decide +kernel
theorem dX7_readWants_134 : decode cX7_readWants 134 = .ok (.iconst 0, 1) := by decide +kernel
theorem dX7_readWants_135 : decode cX7_readWants 135 = .ok (.ireturn, 1) := by decide +kernel
theorem dX7_readWants_136 : decode cX7_readWants 136 = .ok (.aload_n 1, 1) := by decide +kernel
theorem dX7_readWants_137 : decode cX7_readWants 137 = .ok (.getfield 185, 3) := by decide +kernel
theorem dX7_readWants_140 : decode cX7_readWants 140 = .ok (.iload 4, 2) := by decide +kernel
theorem dX7_readWants_142 : decode cX7_readWants 142 = .ok (.aload_n 0, 1) := by decide +kernel
theorem dX7_readWants_143 : decode cX7_readWants 143 = .ok (.getfield 134, 3) := by decide +kernel
theorem dX7_readWants_146 : decode cX7_readWants 146 = .ok (.iastore, 1) := by decide +kernel
theorem dX7_readWants_147 : decode cX7_readWants 147 = .ok (.iconst 1, 1) := by decide +kernel
theorem dX7_readWants_148 : decode cX7_readWants 148 = .ok (.ireturn, 1) := by decide +kernel
theorem dX7_readFrost_0 : decode cX7_readFrost 0 = .ok (.aload_n 0, 1) := by decide +kernel
theorem dX7_readFrost_1 : decode cX7_readFrost 1 = .ok (.invokevirtual 109, 3) := by decide +kernel
theorem dX7_readFrost_4 : decode cX7_readFrost 4 = .ok (.ifCond .eq 13, 3) := by decide +kernel
theorem dX7_readFrost_7 : decode cX7_readFrost 7 = .ok (.aload_n 0, 1) := by decide +kernel
theorem dX7_readFrost_8 : decode cX7_readFrost 8 = .ok (.iconst 0, 1) := by decide +kernel
theorem dX7_readFrost_9 : decode cX7_readFrost 9 = .ok (.bipush 100, 2) := by decide +kernel
theorem dX7_readFrost_11 : decode cX7_readFrost 11 = .ok (.invokevirtual 130, 3) := by decide +kernel
theorem dX7_readFrost_14 : decode cX7_readFrost 14 = .ok (.ifCond .ne 5, 3) := by decide +kernel
theorem dX7_readFrost_17 : decode cX7_readFrost 17 = .ok (.iconst 0, 1) := by decide +kernel
theorem dX7_readFrost_18 : decode cX7_readFrost 18 = .ok (.ireturn, 1) := by decide +kernel
theorem dX7_readFrost_19 : decode cX7_readFrost 19 = .ok (.aload_n 1, 1) := by decide +kernel
theorem dX7_readFrost_20 : decode cX7_readFrost 20 = .ok (.aload_n 0, 1) := by decide +kernel
theorem dX7_readFrost_21 : decode cX7_readFrost 21 = .ok (.getfield 134, 3) := by decide +kernel
theorem dX7_readFrost_24 : decode cX7_readFrost 24 = .ok (.putfield 194, 3) := by decide +kernel
theorem dX7_readFrost_27 : decode cX7_readFrost 27 = .ok (.aload_n 0, 1) := by decide +kernel
theorem dX7_readFrost_28 : decode cX7_readFrost 28 = .ok (.bipush 11, 2) := by decide +kernel
theorem dX7_readFrost_30 : decode cX7_readFrost 30 = .ok (.invokevirtual 147, 3) := by decide +kernel
theorem dX7_readFrost_33 : decode cX7_readFrost 33 = .ok (.ifCond .eq 13, 3) := by decide +kernel
theorem dX7_readFrost_36 : decode cX7_readFrost 36 = .ok (.aload_n 0, 1) := by decide +kernel
theorem dX7_readFrost_37 : decode cX7_readFrost 37 = .ok (.iconst 1, 1) := by decide +kernel
theorem dX7_readFrost_38 : decode cX7_readFrost 38 = .ok (.bipush 99, 2) := by decide +kernel
theorem dX7_readFrost_40 : decode cX7_readFrost 40 = .ok (.invokevirtual 130, 3) := by decide +kernel
theorem dX7_readFrost_43 : decode cX7_readFrost 43 = .ok (.ifCond .ne 5, 3) := by decide +kernel
theorem dX7_readFrost_46 : decode cX7_readFrost 46 = .ok (.iconst 0, 1) := by decide +kernel
theorem dX7_readFrost_47 : decode cX7_readFrost 47 = .ok (.ireturn, 1) := by decide +kernel
theorem dX7_readFrost_48 : decode cX7_readFrost 48 = .ok (.aload_n 1, 1) := by decide +kernel
theorem dX7_readFrost_49 : decode cX7_readFrost 49 = .ok (.aload_n 0, 1) := by decide +kernel
theorem dX7_readFrost_50 : decode cX7_readFrost 50 = .ok (.getfield 134, 3) := by decide +kernel
theorem dX7_readFrost_53 : decode cX7_readFrost 53 = .ok (.putfield 197, 3) := by decide +kernel
theorem dX7_readFrost_56 : decode cX7_readFrost 56 = .ok (.iconst 1, 1) := by decide +kernel
theorem dX7_readFrost_57 : decode cX7_readFrost 57 = .ok (.ireturn, 1) := by decide +kernel
theorem dX7_readDraw_0 : decode cX7_readDraw 0 = .ok (.aload_n 0, 1) := by decide +kernel
theorem dX7_readDraw_1 : decode cX7_readDraw 1 = .ok (.invokevirtual 109, 3) := by decide +kernel
theorem dX7_readDraw_4 : decode cX7_readDraw 4 = .ok (.ifCond .eq 14, 3) := by decide +kernel
theorem dX7_readDraw_7 : decode cX7_readDraw 7 = .ok (.aload_n 0, 1) := by decide +kernel
theorem dX7_readDraw_8 : decode cX7_readDraw 8 = .ok (.iconst 0, 1) := by decide +kernel
theorem dX7_readDraw_9 : decode cX7_readDraw 9 = .ok (.sipush 999, 3) := by decide +kernel
theorem dX7_readDraw_12 : decode cX7_readDraw 12 = .ok (.invokevirtual 130, 3) := by decide +kernel
theorem dX7_readDraw_15 : decode cX7_readDraw 15 = .ok (.ifCond .ne 5, 3) := by decide +kernel
theorem dX7_readDraw_18 : decode cX7_readDraw 18 = .ok (.iconst 0, 1) := by decide +kernel
theorem dX7_readDraw_19 : decode cX7_readDraw 19 = .ok (.ireturn, 1) := by decide +kernel
theorem dX7_readDraw_20 : decode cX7_readDraw 20 = .ok (.aload_n 1, 1) := by decide +kernel
theorem dX7_readDraw_21 : decode cX7_readDraw 21 = .ok (.aload_n 0, 1) := by decide +kernel
theorem dX7_readDraw_22 : decode cX7_readDraw 22 = .ok (.getfield 134, 3) := by decide +kernel
theorem dX7_readDraw_25 : decode cX7_readDraw 25 = .ok (.putfield 200, 3) := by decide +kernel
theorem dX7_readDraw_28 : decode cX7_readDraw 28 = .ok (.iconst 1, 1) := by decide +kernel
theorem dX7_readDraw_29 : decode cX7_readDraw 29 = .ok (.ireturn, 1) := by decide +kernel
theorem dX7_beginOnce_0 : decode cX7_beginOnce 0 = .ok (.iconst 1, 1) := by decide +kernel
theorem dX7_beginOnce_1 : decode cX7_beginOnce 1 = .ok (.aload_n 0, 1) := by decide +kernel
theorem dX7_beginOnce_2 : decode cX7_beginOnce 2 = .ok (.getfield 88, 3) := by decide +kernel
theorem dX7_beginOnce_5 : decode cX7_beginOnce 5 = .ok (.ishl, 1) := by decide +kernel
theorem dX7_beginOnce_6 : decode cX7_beginOnce 6 = .ok (.istore_n 1, 1) := by decide +kernel
theorem dX7_beginOnce_7 : decode cX7_beginOnce 7 = .ok (.aload_n 0, 1) := by decide +kernel
theorem dX7_beginOnce_8 : decode cX7_beginOnce 8 = .ok (.getfield 54, 3) := by decide +kernel
theorem dX7_beginOnce_11 : decode cX7_beginOnce 11 = .ok (.iload_n 1, 1) := by decide +kernel
theorem dX7_beginOnce_12 : decode cX7_beginOnce 12 = .ok (.iand, 1) := by decide +kernel
theorem dX7_beginOnce_13 : decode cX7_beginOnce 13 = .ok (.ifCond .eq 8, 3) := by decide +kernel
theorem dX7_beginOnce_16 : decode cX7_beginOnce 16 = .ok (.aload_n 0, 1) := by decide +kernel
theorem dX7_beginOnce_17 : decode cX7_beginOnce 17 = .ok (.invokevirtual 127, 3) := by decide +kernel
theorem dX7_beginOnce_20 : decode cX7_beginOnce 20 = .ok (.ireturn, 1) := by decide +kernel
theorem dX7_beginOnce_21 : decode cX7_beginOnce 21 = .ok (.aload_n 0, 1) := by decide +kernel
theorem dX7_beginOnce_22 : decode cX7_beginOnce 22 = .ok (.dup, 1) := by decide +kernel
theorem dX7_beginOnce_23 : decode cX7_beginOnce 23 = .ok (.getfield 54, 3) := by decide +kernel
theorem dX7_beginOnce_26 : decode cX7_beginOnce 26 = .ok (.iload_n 1, 1) := by decide +kernel
theorem dX7_beginOnce_27 : decode cX7_beginOnce 27 = .ok (.ior, 1) := by decide +kernel
theorem dX7_beginOnce_28 : decode cX7_beginOnce 28 = .ok (.putfield 54, 3) := by decide +kernel
theorem dX7_beginOnce_31 : decode cX7_beginOnce 31 = .ok (.aload_n 0, 1) := by decide +kernel
theorem dX7_beginOnce_32 : decode cX7_beginOnce 32 = .ok (.invokevirtual 62, 3) := by decide +kernel
theorem dX7_beginOnce_35 : decode cX7_beginOnce 35 = .ok (.iconst 1, 1) := by decide +kernel
theorem dX7_beginOnce_36 : decode cX7_beginOnce 36 = .ok (.ireturn, 1) := by decide +kernel
theorem dX7_beginSort_0 : decode cX7_beginSort 0 = .ok (.iload_n 2, 1) := by decide +kernel
theorem dX7_beginSort_1 : decode cX7_beginSort 1 = .ok (.iload_n 3, 1) := by decide +kernel
theorem dX7_beginSort_2 : decode cX7_beginSort 2 = .ok (.if_icmp .lt 8, 3) := by decide +kernel
theorem dX7_beginSort_5 : decode cX7_beginSort 5 = .ok (.aload_n 0, 1) := by decide +kernel
theorem dX7_beginSort_6 : decode cX7_beginSort 6 = .ok (.invokevirtual 127, 3) := by decide +kernel
theorem dX7_beginSort_9 : decode cX7_beginSort 9 = .ok (.ireturn, 1) := by decide +kernel
theorem dX7_beginSort_10 : decode cX7_beginSort 10 = .ok (.aload_n 0, 1) := by decide +kernel
theorem dX7_beginSort_11 : decode cX7_beginSort 11 = .ok (.invokevirtual 62, 3) := by decide +kernel
theorem dX7_beginSort_14 : decode cX7_beginSort 14 = .ok (.aload_n 0, 1) := by decide +kernel
theorem dX7_beginSort_15 : decode cX7_beginSort 15 = .ok (.invokevirtual 203, 3) := by decide +kernel
theorem dX7_beginSort_18 : decode cX7_beginSort 18 = .ok (.ifCond .ne 8, 3) := by decide +kernel
theorem dX7_beginSort_21 : decode cX7_beginSort 21 = .ok (.aload_n 0, 1) := by decide +kernel
theorem dX7_beginSort_22 : decode cX7_beginSort 22 = .ok (.invokevirtual 127, 3) := by decide +kernel
theorem dX7_beginSort_25 : decode cX7_beginSort 25 = .ok (.ireturn, 1) := by decide +kernel
theorem dX7_beginSort_26 : decode cX7_beginSort 26 = .ok (.aload_n 0, 1) := by decide +kernel
theorem dX7_beginSort_27 : decode cX7_beginSort 27 = .ok (.iload_n 1, 1) := by decide +kernel
theorem dX7_beginSort_28 : decode cX7_beginSort 28 = .ok (.iload_n 2, 1) := by decide +kernel
theorem dX7_beginSort_29 : decode cX7_beginSort 29 = .ok (.invokevirtual 206, 3) := by decide +kernel
theorem dX7_beginSort_32 : decode cX7_beginSort 32 = .ok (.iconst (-1), 1) := by decide +kernel
theorem dX7_beginSort_33 : decode cX7_beginSort 33 = .ok (.if_icmp .eq 13, 3) := by decide +kernel
theorem dX7_beginSort_36 : decode cX7_beginSort 36 = .ok (.aload_n 0, 1) := by decide +kernel
theorem dX7_beginSort_37 : decode cX7_beginSort 37 = .ok (.iconst 3, 1) := by decide +kernel
theorem dX7_beginSort_38 : decode cX7_beginSort 38 = .ok (.aload_n 0, 1) := by decide +kernel
theorem dX7_beginSort_39 : decode cX7_beginSort 39 = .ok (.getfield 182, 3) := by decide +kernel
theorem dX7_beginSort_42 : decode cX7_beginSort 42 = .ok (.invokevirtual 191, 3) := by decide +kernel
theorem dX7_beginSort_45 : decode cX7_beginSort 45 = .ok (.ireturn, 1) := by decide +kernel
theorem dX7_beginSort_46 : decode cX7_beginSort 46 = .ok (.iload_n 1, 1) := by decide +kernel
theorem dX7_beginSort_47 : decode cX7_beginSort 47 = .ok (.iload_n 2, 1) := by decide +kernel
theorem dX7_beginSort_48 : decode cX7_beginSort 48 = .ok (.iadd, 1) := by decide +kernel
theorem dX7_beginSort_49 : decode cX7_beginSort 49 = .ok (.istore 4, 2) := by decide +kernel
theorem dX7_beginSort_51 : decode cX7_beginSort 51 = .ok (.iload 4, 2) := by decide +kernel
theorem dX7_beginSort_53 : decode cX7_beginSort 53 = .ok (.ifCond .lt 24, 3) := by decide +kernel
theorem dX7_beginSort_56 : decode cX7_beginSort 56 = .ok (.iload 4, 2) := by decide +kernel
theorem dX7_beginSort_58 : decode cX7_beginSort 58 = .ok (.aload_n 0, 1) := by decide +kernel
theorem dX7_beginSort_59 : decode cX7_beginSort 59 = .ok (.getfield 21, 3) := by decide +kernel
theorem dX7_beginSort_62 : decode cX7_beginSort 62 = .ok (.arraylength, 1) := by decide +kernel
theorem dX7_beginSort_63 : decode cX7_beginSort 63 = .ok (.if_icmp .ge 14, 3) := by decide +kernel
theorem dX7_beginSort_66 : decode cX7_beginSort 66 = .ok (.aload_n 0, 1) := by decide +kernel
theorem dX7_beginSort_67 : decode cX7_beginSort 67 = .ok (.getfield 21, 3) := by decide +kernel
theorem dX7_beginSort_70 : decode cX7_beginSort 70 = .ok (.iload 4, 2) := by decide +kernel
theorem dX7_beginSort_72 : decode cX7_beginSort 72 = .ok (.aload_n 0, 1) := by decide +kernel
theorem dX7_beginSort_73 : decode cX7_beginSort 73 = .ok (.getfield 209, 3) := by decide +kernel
theorem dX7_beginSort_76 : decode cX7_beginSort 76 = .ok (.lastore, 1) := by decide +kernel
theorem dX7_beginSort_77 : decode cX7_beginSort 77 = .ok (.aload_n 0, 1) := by decide +kernel
theorem dX7_beginSort_78 : decode cX7_beginSort 78 = .ok (.invokevirtual 62, 3) := by decide +kernel
theorem dX7_beginSort_81 : decode cX7_beginSort 81 = .ok (.iconst 1, 1) := by decide +kernel
theorem dX7_beginSort_82 : decode cX7_beginSort 82 = .ok (.ireturn, 1) := by decide +kernel
theorem dX7_readLevel_0 : decode cX7_readLevel 0 = .ok (.iload_n 2, 1) := by decide +kernel
theorem dX7_readLevel_1 : decode cX7_readLevel 1 = .ok (.iconst 4, 1) := by decide +kernel
theorem dX7_readLevel_2 : decode cX7_readLevel 2 = .ok (.if_icmp .le 10, 3) := by decide +kernel
theorem dX7_readLevel_5 : decode cX7_readLevel 5 = .ok (.aload_n 0, 1) := by decide +kernel
theorem dX7_readLevel_6 : decode cX7_readLevel 6 = .ok (.aload_n 1, 1) := by decide +kernel
theorem dX7_readLevel_7 : decode cX7_readLevel 7 = .ok (.iload_n 3, 1) := by decide +kernel
theorem dX7_readLevel_8 : decode cX7_readLevel 8 = .ok (.invokevirtual 213, 3) := by decide +kernel
theorem dX7_readLevel_11 : decode cX7_readLevel 11 = .ok (.ireturn, 1) := by decide +kernel
theorem dX7_readLevel_12 : decode cX7_readLevel 12 = .ok (.iload_n 2, 1) := by decide +kernel
theorem dX7_readLevel_13 : decode cX7_readLevel 13 = .ok (.iconst 2, 1) := by decide +kernel
theorem dX7_readLevel_14 : decode cX7_readLevel 14 = .ok (.if_icmp .ne 19, 3) := by decide +kernel
theorem dX7_readLevel_17 : decode cX7_readLevel 17 = .ok (.aload_n 0, 1) := by decide +kernel
theorem dX7_readLevel_18 : decode cX7_readLevel 18 = .ok (.bipush 19, 2) := by decide +kernel
theorem dX7_readLevel_20 : decode cX7_readLevel 20 = .ok (.invokevirtual 154, 3) := by decide +kernel
theorem dX7_readLevel_23 : decode cX7_readLevel 23 = .ok (.ifCond .eq 10, 3) := by decide +kernel
theorem dX7_readLevel_26 : decode cX7_readLevel 26 = .ok (.aload_n 0, 1) := by decide +kernel
theorem dX7_readLevel_27 : decode cX7_readLevel 27 = .ok (.aload_n 1, 1) := by decide +kernel
theorem dX7_readLevel_28 : decode cX7_readLevel 28 = .ok (.iload_n 3, 1) := by decide +kernel
theorem dX7_readLevel_29 : decode cX7_readLevel 29 = .ok (.invokevirtual 217, 3) := by decide +kernel
theorem dX7_readLevel_32 : decode cX7_readLevel 32 = .ok (.ireturn, 1) := by decide +kernel
theorem dX7_readLevel_33 : decode cX7_readLevel 33 = .ok (.aload_n 0, 1) := by decide +kernel
theorem dX7_readLevel_34 : decode cX7_readLevel 34 = .ok (.aload_n 1, 1) := by decide +kernel
theorem dX7_readLevel_35 : decode cX7_readLevel 35 = .ok (.iload_n 2, 1) := by decide +kernel
theorem dX7_readLevel_36 : decode cX7_readLevel 36 = .ok (.iconst 1, 1) := by decide +kernel
theorem dX7_readLevel_37 : decode cX7_readLevel 37 = .ok (.iadd, 1) := by decide +kernel
theorem dX7_readLevel_38 : decode cX7_readLevel 38 = .ok (.iload_n 3, 1) := by decide +kernel
theorem dX7_readLevel_39 : decode cX7_readLevel 39 = .ok (.invokevirtual 117, 3) := by decide +kernel
theorem dX7_readLevel_42 : decode cX7_readLevel 42 = .ok (.ifCond .ne 5, 3) := by decide +kernel
theorem dX7_readLevel_45 : decode cX7_readLevel 45 = .ok (.iconst 0, 1) := by decide +kernel
theorem dX7_readLevel_46 : decode cX7_readLevel 46 = .ok (.ireturn, 1) := by decide +kernel
theorem dX7_readLevel_47 : decode cX7_readLevel 47 = .ok (.iload_n 2, 1) := by decide +kernel
theorem dX7_readLevel_48 : decode cX7_readLevel 48 = .ok (.iconst 2, 1) := by decide +kernel
theorem dX7_readLevel_49 : decode cX7_readLevel 49 = .ok (.if_icmp .ne 7, 3) := by decide +kernel
theorem dX7_readLevel_52 : decode cX7_readLevel 52 = .ok (.iconst 1, 1) := by decide +kernel
theorem dX7_readLevel_53 : decode cX7_readLevel 53 = .ok (.goto 5, 3) := by decide +kernel
theorem dX7_readLevel_56 : decode cX7_readLevel 56 = .ok (.bipush 30, 2) := by decide +kernel
theorem dX7_readLevel_58 : decode cX7_readLevel 58 = .ok (.istore 4, 2) := by decide +kernel
theorem dX7_readLevel_60 : decode cX7_readLevel 60 = .ok (.aload_n 0, 1) := by decide +kernel
theorem dX7_readLevel_61 : decode cX7_readLevel 61 = .ok (.iload_n 2, 1) := by decide +kernel
theorem dX7_readLevel_62 : decode cX7_readLevel 62 = .ok (.invokevirtual 220, 3) := by decide +kernel
theorem dX7_readLevel_65 : decode cX7_readLevel 65 = .ok (.istore 5, 2) := by decide +kernel
theorem dX7_readLevel_67 : decode cX7_readLevel 67 = .ok (.iconst 0, 1) := by decide +kernel
theorem dX7_readLevel_68 : decode cX7_readLevel 68 = .ok (.istore 6, 2) := by decide +kernel
theorem dX7_readLevel_70 : decode cX7_readLevel 70 = .ok (.iload 6, 2) := by decide +kernel
theorem dX7_readLevel_72 : decode cX7_readLevel 72 = .ok (.iload 4, 2) := by decide +kernel
theorem dX7_readLevel_74 : decode cX7_readLevel 74 = .ok (.if_icmp .ge 45, 3) := by decide +kernel
theorem dX7_readLevel_77 : decode cX7_readLevel 77 = .ok (.iload 5, 2) := by decide +kernel
theorem dX7_readLevel_79 : decode cX7_readLevel 79 = .ok (.ifCond .eq 40, 3) := by decide +kernel
theorem dX7_readLevel_82 : decode cX7_readLevel 82 = .ok (.aload_n 0, 1) := by decide +kernel
theorem dX7_readLevel_83 : decode cX7_readLevel 83 = .ok (.invokevirtual 62, 3) := by decide +kernel
theorem dX7_readLevel_86 : decode cX7_readLevel 86 = .ok (.aload_n 0, 1) := by decide +kernel
theorem dX7_readLevel_87 : decode cX7_readLevel 87 = .ok (.aload_n 1, 1) := by decide +kernel
theorem dX7_readLevel_88 : decode cX7_readLevel 88 = .ok (.iload_n 2, 1) := by decide +kernel
theorem dX7_readLevel_89 : decode cX7_readLevel 89 = .ok (.iconst 1, 1) := by decide +kernel
theorem dX7_readLevel_90 : decode cX7_readLevel 90 = .ok (.iadd, 1) := by decide +kernel
theorem dX7_readLevel_91 : decode cX7_readLevel 91 = .ok (.iload_n 3, 1) := by decide +kernel
theorem dX7_readLevel_92 : decode cX7_readLevel 92 = .ok (.invokevirtual 117, 3) := by decide +kernel
theorem dX7_readLevel_95 : decode cX7_readLevel 95 = .ok (.ifCond .ne 5, 3) := by decide +kernel
theorem dX7_readLevel_98 : decode cX7_readLevel 98 = .ok (.iconst 0, 1) := by decide +kernel
theorem dX7_readLevel_99 : decode cX7_readLevel 99 = .ok (.ireturn, 1) := by decide +kernel
theorem dX7_readLevel_100 : decode cX7_readLevel 100 = .ok (.aload_n 1, 1) := by decide +kernel
theorem dX7_readLevel_101 : decode cX7_readLevel 101 = .ok (.iload 5, 2) := by decide +kernel
theorem dX7_readLevel_103 : decode cX7_readLevel 103 = .ok (.invokevirtual 224, 3) := by decide +kernel
theorem dX7_readLevel_106 : decode cX7_readLevel 106 = .ok (.aload_n 0, 1) := by decide +kernel
theorem dX7_readLevel_107 : decode cX7_readLevel 107 = .ok (.iload_n 2, 1) := by decide +kernel
theorem dX7_readLevel_108 : decode cX7_readLevel 108 = .ok (.invokevirtual 220, 3) := by decide +kernel
theorem dX7_readLevel_111 : decode cX7_readLevel 111 = .ok (.istore 5, 2) := by decide +kernel
theorem dX7_readLevel_113 : decode cX7_readLevel 113 = .ok (.iinc 6 1, 3) := by decide +kernel
theorem dX7_readLevel_116 : decode cX7_readLevel 116 = .ok (.goto (-46), 3) := by decide +kernel
theorem dX7_readLevel_119 : decode cX7_readLevel 119 = .ok (.iconst 1, 1) := by decide +kernel
theorem dX7_readLevel_120 : decode cX7_readLevel 120 = .ok (.ireturn, 1) := by decide +kernel
theorem dX7_readNot_0 : decode cX7_readNot 0 = .ok (.iload_n 2, 1) := by decide +kernel
theorem dX7_readNot_1 : decode cX7_readNot 1 = .ok (.bipush 6, 2) := by decide +kernel
theorem dX7_readNot_3 : decode cX7_readNot 3 = .ok (.if_icmp .le 8, 3) := by decide +kernel
theorem dX7_readNot_6 : decode cX7_readNot 6 = .ok (.aload_n 0, 1) := by decide +kernel
theorem dX7_readNot_7 : decode cX7_readNot 7 = .ok (.invokevirtual 127, 3) := by decide +kernel
theorem dX7_readNot_10 : decode cX7_readNot 10 = .ok (.ireturn, 1) := by decide +kernel
theorem dX7_readNot_11 : decode cX7_readNot 11 = .ok (.aload_n 0, 1) := by decide +kernel
theorem dX7_readNot_12 : decode cX7_readNot 12 = .ok (.invokevirtual 62, 3) := by decide +kernel
theorem dX7_readNot_15 : decode cX7_readNot 15 = .ok (.aload_n 0, 1) := by decide +kernel
theorem dX7_readNot_16 : decode cX7_readNot 16 = .ok (.aload_n 1, 1) := by decide +kernel
theorem dX7_readNot_17 : decode cX7_readNot 17 = .ok (.iconst 2, 1) := by decide +kernel
theorem dX7_readNot_18 : decode cX7_readNot 18 = .ok (.iload_n 2, 1) := by decide +kernel
theorem dX7_readNot_19 : decode cX7_readNot 19 = .ok (.iconst 1, 1) := by decide +kernel
theorem dX7_readNot_20 : decode cX7_readNot 20 = .ok (.iadd, 1) := by decide +kernel
theorem dX7_readNot_21 : decode cX7_readNot 21 = .ok (.invokevirtual 117, 3) := by decide +kernel
theorem dX7_readNot_24 : decode cX7_readNot 24 = .ok (.ifCond .ne 5, 3) := by decide +kernel
theorem dX7_readNot_27 : decode cX7_readNot 27 = .ok (.iconst 0, 1) := by decide +kernel
theorem dX7_readNot_28 : decode cX7_readNot 28 = .ok (.ireturn, 1) := by decide +kernel
theorem dX7_readNot_29 : decode cX7_readNot 29 = .ok (.aload_n 1, 1) := by decide +kernel
theorem dX7_readNot_30 : decode cX7_readNot 30 = .ok (.bipush (-6), 2) := by decide +kernel
theorem dX7_readNot_32 : decode cX7_readNot 32 = .ok (.invokevirtual 224, 3) := by decide +kernel
theorem dX7_readNot_35 : decode cX7_readNot 35 = .ok (.iconst 1, 1) := by decide +kernel
theorem dX7_readNot_36 : decode cX7_readNot 36 = .ok (.ireturn, 1) := by decide +kernel
theorem dX7_readUnit_0 : decode cX7_readUnit 0 = .ok (.aload_n 0, 1) := by decide +kernel
theorem dX7_readUnit_1 : decode cX7_readUnit 1 = .ok (.bipush 40, 2) := by decide +kernel
theorem dX7_readUnit_3 : decode cX7_readUnit 3 = .ok (.invokevirtual 228, 3) := by decide +kernel
theorem dX7_readUnit_6 : decode cX7_readUnit 6 = .ok (.istore_n 3, 1) := by decide +kernel
theorem dX7_readUnit_7 : decode cX7_readUnit 7 = .ok (.iload_n 3, 1) := by decide +kernel
theorem dX7_readUnit_8 : decode cX7_readUnit 8 = .ok (.ifCond .eq 8, 3) := by decide +kernel
theorem dX7_readUnit_11 : decode cX7_readUnit 11 = .ok (.bipush (-6), 2) := by decide +kernel
theorem dX7_readUnit_13 : decode cX7_readUnit 13 = .ok (.goto 7, 3) := by decide +kernel
theorem dX7_readUnit_16 : decode cX7_readUnit 16 = .ok (.aload_n 0, 1) := by decide +kernel
theorem dX7_readUnit_17 : decode cX7_readUnit 17 = .ok (.invokevirtual 231, 3) := by decide +kernel
theorem dX7_readUnit_20 : decode cX7_readUnit 20 = .ok (.istore 4, 2) := by decide +kernel
theorem dX7_readUnit_22 : decode cX7_readUnit 22 = .ok (.iload_n 3, 1) := by decide +kernel
theorem dX7_readUnit_23 : decode cX7_readUnit 23 = .ok (.ifCond .ne 15, 3) := by decide +kernel
theorem dX7_readUnit_26 : decode cX7_readUnit 26 = .ok (.iload 4, 2) := by decide +kernel
theorem dX7_readUnit_28 : decode cX7_readUnit 28 = .ok (.bipush (-6), 2) := by decide +kernel
theorem dX7_readUnit_30 : decode cX7_readUnit 30 = .ok (.if_icmp .ne 8, 3) := by decide +kernel
theorem dX7_readUnit_33 : decode cX7_readUnit 33 = .ok (.aload_n 0, 1) := by decide +kernel
theorem dX7_readUnit_34 : decode cX7_readUnit 34 = .ok (.invokevirtual 127, 3) := by decide +kernel
theorem dX7_readUnit_37 : decode cX7_readUnit 37 = .ok (.ireturn, 1) := by decide +kernel
theorem dX7_readUnit_38 : decode cX7_readUnit 38 = .ok (.aload_n 1, 1) := by decide +kernel
theorem dX7_readUnit_39 : decode cX7_readUnit 39 = .ok (.getfield 234, 3) := by decide +kernel
theorem dX7_readUnit_42 : decode cX7_readUnit 42 = .ok (.bipush 30, 2) := by decide +kernel
theorem dX7_readUnit_44 : decode cX7_readUnit 44 = .ok (.if_icmp .ge 13, 3) := by decide +kernel
theorem dX7_readUnit_47 : decode cX7_readUnit 47 = .ok (.iload_n 3, 1) := by decide +kernel
theorem dX7_readUnit_48 : decode cX7_readUnit 48 = .ok (.ifCond .eq 14, 3) := by decide +kernel
theorem dX7_readUnit_51 : decode cX7_readUnit 51 = .ok (.iload_n 2, 1) := by decide +kernel
theorem dX7_readUnit_52 : decode cX7_readUnit 52 = .ok (.bipush 6, 2) := by decide +kernel
theorem dX7_readUnit_54 : decode cX7_readUnit 54 = .ok (.if_icmp .le 8, 3) := by decide +kernel
theorem dX7_readUnit_57 : decode cX7_readUnit 57 = .ok (.aload_n 0, 1) := by decide +kernel
theorem dX7_readUnit_58 : decode cX7_readUnit 58 = .ok (.invokevirtual 127, 3) := by decide +kernel
theorem dX7_readUnit_61 : decode cX7_readUnit 61 = .ok (.ireturn, 1) := by decide +kernel
theorem dX7_readUnit_62 : decode cX7_readUnit 62 = .ok (.aload_n 1, 1) := by decide +kernel
theorem dX7_readUnit_63 : decode cX7_readUnit 63 = .ok (.dup, 1) := by decide +kernel
theorem dX7_readUnit_64 : decode cX7_readUnit 64 = .ok (.getfield 234, 3) := by decide +kernel
theorem dX7_readUnit_67 : decode cX7_readUnit 67 = .ok (.iconst 1, 1) := by decide +kernel
theorem dX7_readUnit_68 : decode cX7_readUnit 68 = .ok (.iadd, 1) := by decide +kernel
theorem dX7_readUnit_69 : decode cX7_readUnit 69 = .ok (.putfield 234, 3) := by decide +kernel
theorem dX7_readUnit_72 : decode cX7_readUnit 72 = .ok (.aload_n 0, 1) := by decide +kernel
theorem dX7_readUnit_73 : decode cX7_readUnit 73 = .ok (.invokevirtual 62, 3) := by decide +kernel
theorem dX7_readUnit_76 : decode cX7_readUnit 76 = .ok (.iload_n 3, 1) := by decide +kernel
theorem dX7_readUnit_77 : decode cX7_readUnit 77 = .ok (.ifCond .eq 30, 3) := by decide +kernel
theorem dX7_readUnit_80 : decode cX7_readUnit 80 = .ok (.aload_n 0, 1) := by decide +kernel
theorem dX7_readUnit_81 : decode cX7_readUnit 81 = .ok (.aload_n 1, 1) := by decide +kernel
theorem dX7_readUnit_82 : decode cX7_readUnit 82 = .ok (.iconst 0, 1) := by decide +kernel
theorem dX7_readUnit_83 : decode cX7_readUnit 83 = .ok (.iload_n 2, 1) := by decide +kernel
theorem dX7_readUnit_84 : decode cX7_readUnit 84 = .ok (.iconst 1, 1) := by decide +kernel
theorem dX7_readUnit_85 : decode cX7_readUnit 85 = .ok (.iadd, 1) := by decide +kernel
theorem dX7_readUnit_86 : decode cX7_readUnit 86 = .ok (.invokevirtual 117, 3) := by decide +kernel
theorem dX7_readUnit_89 : decode cX7_readUnit 89 = .ok (.ifCond .eq 16, 3) := by decide +kernel
theorem dX7_readUnit_92 : decode cX7_readUnit 92 = .ok (.aload_n 0, 1) := by decide +kernel
theorem dX7_readUnit_93 : decode cX7_readUnit 93 = .ok (.bipush 41, 2) := by decide +kernel
theorem dX7_readUnit_95 : decode cX7_readUnit 95 = .ok (.invokevirtual 75, 3) := by decide +kernel
theorem dX7_readUnit_98 : decode cX7_readUnit 98 = .ok (.ifCond .eq 7, 3) := by decide +kernel
theorem dX7_readUnit_101 : decode cX7_readUnit 101 = .ok (.iconst 1, 1) := by decide +kernel
theorem dX7_readUnit_102 : decode cX7_readUnit 102 = .ok (.goto 4, 3) := by decide +kernel
theorem dX7_readUnit_105 : decode cX7_readUnit 105 = .ok (.iconst 0, 1) := by decide +kernel
theorem dX7_readUnit_106 : decode cX7_readUnit 106 = .ok (.ireturn, 1) := by decide +kernel
theorem dX7_readUnit_107 : decode cX7_readUnit 107 = .ok (.aload_n 1, 1) := by decide +kernel
theorem dX7_readUnit_108 : decode cX7_readUnit 108 = .ok (.iload 4, 2) := by decide +kernel
theorem dX7_readUnit_110 : decode cX7_readUnit 110 = .ok (.invokevirtual 224, 3) := by decide +kernel
theorem dX7_readUnit_113 : decode cX7_readUnit 113 = .ok (.iconst 1, 1) := by decide +kernel
theorem dX7_readUnit_114 : decode cX7_readUnit 114 = .ok (.ireturn, 1) := by decide +kernel
theorem dX7_joinedBy_0 : decode cX7_joinedBy 0 = .ok (.aload_n 0, 1) := by decide +kernel
theorem dX7_joinedBy_1 : decode cX7_joinedBy 1 = .ok (.getfield 68, 3) := by decide +kernel
theorem dX7_joinedBy_4 : decode cX7_joinedBy 4 = .ok (.iconst 1, 1) := by decide +kernel
theorem dX7_joinedBy_5 : decode cX7_joinedBy 5 = .ok (.if_icmp .ne 40, 3) := by decide +kernel
theorem dX7_joinedBy_8 : decode cX7_joinedBy 8 = .ok (.iload_n 1, 1) := by decide +kernel
theorem dX7_joinedBy_9 : decode cX7_joinedBy 9 = .ok (.ifCond .ne 15, 3) := by decide +kernel
theorem dX7_joinedBy_12 : decode cX7_joinedBy 12 = .ok (.aload_n 0, 1) := by decide +kernel
theorem dX7_joinedBy_13 : decode cX7_joinedBy 13 = .ok (.getfield 88, 3) := by decide +kernel
theorem dX7_joinedBy_16 : decode cX7_joinedBy 16 = .ok (.bipush 17, 2) := by decide +kernel
theorem dX7_joinedBy_18 : decode cX7_joinedBy 18 = .ok (.if_icmp .ne 6, 3) := by decide +kernel
theorem dX7_joinedBy_21 : decode cX7_joinedBy 21 = .ok (.bipush (-7), 2) := by decide +kernel
theorem dX7_joinedBy_23 : decode cX7_joinedBy 23 = .ok (.ireturn, 1) := by decide +kernel
theorem dX7_joinedBy_24 : decode cX7_joinedBy 24 = .ok (.iload_n 1, 1) := by decide +kernel
theorem dX7_joinedBy_25 : decode cX7_joinedBy 25 = .ok (.iconst 1, 1) := by decide +kernel
theorem dX7_joinedBy_26 : decode cX7_joinedBy 26 = .ok (.if_icmp .ne 17, 3) := by decide +kernel
theorem dX7_joinedBy_29 : decode cX7_joinedBy 29 = .ok (.aload_n 0, 1) := by decide +kernel
theorem dX7_joinedBy_30 : decode cX7_joinedBy 30 = .ok (.getfield 88, 3) := by decide +kernel
theorem dX7_joinedBy_33 : decode cX7_joinedBy 33 = .ok (.bipush 18, 2) := by decide +kernel
theorem dX7_joinedBy_35 : decode cX7_joinedBy 35 = .ok (.if_icmp .ne 8, 3) := by decide +kernel
theorem dX7_joinedBy_38 : decode cX7_joinedBy 38 = .ok (.bipush (-8), 2) := by decide +kernel
theorem dX7_joinedBy_40 : decode cX7_joinedBy 40 = .ok (.goto 4, 3) := by decide +kernel
theorem dX7_joinedBy_43 : decode cX7_joinedBy 43 = .ok (.iconst 0, 1) := by decide +kernel
theorem dX7_joinedBy_44 : decode cX7_joinedBy 44 = .ok (.ireturn, 1) := by decide +kernel
theorem dX7_joinedBy_45 : decode cX7_joinedBy 45 = .ok (.aload_n 0, 1) := by decide +kernel
theorem dX7_joinedBy_46 : decode cX7_joinedBy 46 = .ok (.getfield 68, 3) := by decide +kernel
theorem dX7_joinedBy_49 : decode cX7_joinedBy 49 = .ok (.iconst 3, 1) := by decide +kernel
theorem dX7_joinedBy_50 : decode cX7_joinedBy 50 = .ok (.if_icmp .eq 5, 3) := by decide +kernel
theorem dX7_joinedBy_53 : decode cX7_joinedBy 53 = .ok (.iconst 0, 1) := by decide +kernel
theorem dX7_joinedBy_54 : decode cX7_joinedBy 54 = .ok (.ireturn, 1) := by decide +kernel
theorem dX7_joinedBy_55 : decode cX7_joinedBy 55 = .ok (.aload_n 0, 1) := by decide +kernel
theorem dX7_joinedBy_56 : decode cX7_joinedBy 56 = .ok (.getfield 88, 3) := by decide +kernel
theorem dX7_joinedBy_59 : decode cX7_joinedBy 59 = .ok (.tableswitch 213 37 62 #[201, 213, 213, 213, 213, 177, 153, 213, 165, 213, 189, 213, 213, 213, 213, 213, 213, 213, 213, 213, 213, 213, 213, 117, 141, 129], 117) := by decide +kernel
theorem dX7_joinedBy_176 : decode cX7_joinedBy 176 = .ok (.iload_n 1, 1) := by decide +kernel
theorem dX7_joinedBy_177 : decode cX7_joinedBy 177 = .ok (.iconst 2, 1) := by decide +kernel
theorem dX7_joinedBy_178 : decode cX7_joinedBy 178 = .ok (.if_icmp .ne 8, 3) := by decide +kernel
theorem dX7_joinedBy_181 : decode cX7_joinedBy 181 = .ok (.bipush (-9), 2) := by decide +kernel
theorem dX7_joinedBy_183 : decode cX7_joinedBy 183 = .ok (.goto 4, 3) := by decide +kernel
theorem dX7_joinedBy_186 : decode cX7_joinedBy 186 = .ok (.iconst 0, 1) := by decide +kernel
theorem dX7_joinedBy_187 : decode cX7_joinedBy 187 = .ok (.ireturn, 1) := by decide +kernel
theorem dX7_joinedBy_188 : decode cX7_joinedBy 188 = .ok (.iload_n 1, 1) := by decide +kernel
theorem dX7_joinedBy_189 : decode cX7_joinedBy 189 = .ok (.iconst 2, 1) := by decide +kernel
theorem dX7_joinedBy_190 : decode cX7_joinedBy 190 = .ok (.if_icmp .ne 8, 3) := by decide +kernel
theorem dX7_joinedBy_193 : decode cX7_joinedBy 193 = .ok (.bipush (-10), 2) := by decide +kernel
theorem dX7_joinedBy_195 : decode cX7_joinedBy 195 = .ok (.goto 4, 3) := by decide +kernel
theorem dX7_joinedBy_198 : decode cX7_joinedBy 198 = .ok (.iconst 0, 1) := by decide +kernel
theorem dX7_joinedBy_199 : decode cX7_joinedBy 199 = .ok (.ireturn, 1) := by decide +kernel
theorem dX7_joinedBy_200 : decode cX7_joinedBy 200 = .ok (.iload_n 1, 1) := by decide +kernel
theorem dX7_joinedBy_201 : decode cX7_joinedBy 201 = .ok (.iconst 2, 1) := by decide +kernel
theorem dX7_joinedBy_202 : decode cX7_joinedBy 202 = .ok (.if_icmp .ne 8, 3) := by decide +kernel
theorem dX7_joinedBy_205 : decode cX7_joinedBy 205 = .ok (.bipush (-11), 2) := by decide +kernel
theorem dX7_joinedBy_207 : decode cX7_joinedBy 207 = .ok (.goto 4, 3) := by decide +kernel
theorem dX7_joinedBy_210 : decode cX7_joinedBy 210 = .ok (.iconst 0, 1) := by decide +kernel
theorem dX7_joinedBy_211 : decode cX7_joinedBy 211 = .ok (.ireturn, 1) := by decide +kernel
theorem dX7_joinedBy_212 : decode cX7_joinedBy 212 = .ok (.iload_n 1, 1) := by decide +kernel
theorem dX7_joinedBy_213 : decode cX7_joinedBy 213 = .ok (.iconst 3, 1) := by decide +kernel
theorem dX7_joinedBy_214 : decode cX7_joinedBy 214 = .ok (.if_icmp .ne 8, 3) := by decide +kernel
theorem dX7_joinedBy_217 : decode cX7_joinedBy 217 = .ok (.bipush (-12), 2) := by decide +kernel
theorem dX7_joinedBy_219 : decode cX7_joinedBy 219 = .ok (.goto 4, 3) := by decide +kernel
theorem dX7_joinedBy_222 : decode cX7_joinedBy 222 = .ok (.iconst 0, 1) := by decide +kernel
theorem dX7_joinedBy_223 : decode cX7_joinedBy 223 = .ok (.ireturn, 1) := by decide +kernel
theorem dX7_joinedBy_224 : decode cX7_joinedBy 224 = .ok (.iload_n 1, 1) := by decide +kernel
theorem dX7_joinedBy_225 : decode cX7_joinedBy 225 = .ok (.iconst 3, 1) := by decide +kernel
theorem dX7_joinedBy_226 : decode cX7_joinedBy 226 = .ok (.if_icmp .ne 8, 3) := by decide +kernel
theorem dX7_joinedBy_229 : decode cX7_joinedBy 229 = .ok (.bipush (-13), 2) := by decide +kernel
theorem dX7_joinedBy_231 : decode cX7_joinedBy 231 = .ok (.goto 4, 3) := by decide +kernel
theorem dX7_joinedBy_234 : decode cX7_joinedBy 234 = .ok (.iconst 0, 1) := by decide +kernel
theorem dX7_joinedBy_235 : decode cX7_joinedBy 235 = .ok (.ireturn, 1) := by decide +kernel
theorem dX7_joinedBy_236 : decode cX7_joinedBy 236 = .ok (.iload_n 1, 1) := by decide +kernel
theorem dX7_joinedBy_237 : decode cX7_joinedBy 237 = .ok (.iconst 4, 1) := by decide +kernel
theorem dX7_joinedBy_238 : decode cX7_joinedBy 238 = .ok (.if_icmp .ne 8, 3) := by decide +kernel
theorem dX7_joinedBy_241 : decode cX7_joinedBy 241 = .ok (.bipush (-14), 2) := by decide +kernel
theorem dX7_joinedBy_243 : decode cX7_joinedBy 243 = .ok (.goto 4, 3) := by decide +kernel
theorem dX7_joinedBy_246 : decode cX7_joinedBy 246 = .ok (.iconst 0, 1) := by decide +kernel
theorem dX7_joinedBy_247 : decode cX7_joinedBy 247 = .ok (.ireturn, 1) := by decide +kernel
theorem dX7_joinedBy_248 : decode cX7_joinedBy 248 = .ok (.iload_n 1, 1) := by decide +kernel
theorem dX7_joinedBy_249 : decode cX7_joinedBy 249 = .ok (.iconst 4, 1) := by decide +kernel
theorem dX7_joinedBy_250 : decode cX7_joinedBy 250 = .ok (.if_icmp .ne 8, 3) := by decide +kernel
theorem dX7_joinedBy_253 : decode cX7_joinedBy 253 = .ok (.bipush (-15), 2) := by decide +kernel
theorem dX7_joinedBy_255 : decode cX7_joinedBy 255 = .ok (.goto 4, 3) := by decide +kernel
theorem dX7_joinedBy_258 : decode cX7_joinedBy 258 = .ok (.iconst 0, 1) := by decide +kernel
theorem dX7_joinedBy_259 : decode cX7_joinedBy 259 = .ok (.ireturn, 1) := by decide +kernel
theorem dX7_joinedBy_260 : decode cX7_joinedBy 260 = .ok (.iload_n 1, 1) := by decide +kernel
theorem dX7_joinedBy_261 : decode cX7_joinedBy 261 = .ok (.iconst 4, 1) := by decide +kernel
theorem dX7_joinedBy_262 : decode cX7_joinedBy 262 = .ok (.if_icmp .ne 8, 3) := by decide +kernel
theorem dX7_joinedBy_265 : decode cX7_joinedBy 265 = .ok (.bipush (-16), 2) := by decide +kernel
theorem dX7_joinedBy_267 : decode cX7_joinedBy 267 = .ok (.goto 4, 3) := by decide +kernel
theorem dX7_joinedBy_270 : decode cX7_joinedBy 270 = .ok (.iconst 0, 1) := by decide +kernel
theorem dX7_joinedBy_271 : decode cX7_joinedBy 271 = .ok (.ireturn, 1) := by decide +kernel
theorem dX7_joinedBy_272 : decode cX7_joinedBy 272 = .ok (.iconst 0, 1) := by decide +kernel
theorem dX7_joinedBy_273 : decode cX7_joinedBy 273 = .ok (.ireturn, 1) := by decide +kernel
theorem dX7_singleUnit_0 : decode cX7_singleUnit 0 = .ok (.aload_n 0, 1) := by decide +kernel
theorem dX7_singleUnit_1 : decode cX7_singleUnit 1 = .ok (.getfield 68, 3) := by decide +kernel
theorem dX7_singleUnit_4 : decode cX7_singleUnit 4 = .ok (.iconst 2, 1) := by decide +kernel
theorem dX7_singleUnit_5 : decode cX7_singleUnit 5 = .ok (.if_icmp .ne 8, 3) := by decide +kernel
theorem dX7_singleUnit_8 : decode cX7_singleUnit 8 = .ok (.aload_n 0, 1) := by decide +kernel
theorem dX7_singleUnit_9 : decode cX7_singleUnit 9 = .ok (.getfield 88, 3) := by decide +kernel
theorem dX7_singleUnit_12 : decode cX7_singleUnit 12 = .ok (.ireturn, 1) := by decide +kernel
theorem dX7_singleUnit_13 : decode cX7_singleUnit 13 = .ok (.aload_n 0, 1) := by decide +kernel
theorem dX7_singleUnit_14 : decode cX7_singleUnit 14 = .ok (.getfield 68, 3) := by decide +kernel
theorem dX7_singleUnit_17 : decode cX7_singleUnit 17 = .ok (.iconst 1, 1) := by decide +kernel
theorem dX7_singleUnit_18 : decode cX7_singleUnit 18 = .ok (.if_icmp .ne 10, 3) := by decide +kernel
theorem dX7_singleUnit_21 : decode cX7_singleUnit 21 = .ok (.aload_n 0, 1) := by decide +kernel
theorem dX7_singleUnit_22 : decode cX7_singleUnit 22 = .ok (.getfield 88, 3) := by decide +kernel
theorem dX7_singleUnit_25 : decode cX7_singleUnit 25 = .ok (.goto 4, 3) := by decide +kernel
theorem dX7_singleUnit_28 : decode cX7_singleUnit 28 = .ok (.iconst (-1), 1) := by decide +kernel
theorem dX7_singleUnit_29 : decode cX7_singleUnit 29 = .ok (.tableswitch 89 9 23 #[75, 89, 89, 89, 89, 89, 89, 89, 89, 89, 89, 77, 80, 83, 86], 75) := by decide +kernel
theorem dX7_singleUnit_104 : decode cX7_singleUnit 104 = .ok (.iconst (-1), 1) := by decide +kernel
theorem dX7_singleUnit_105 : decode cX7_singleUnit 105 = .ok (.ireturn, 1) := by decide +kernel
theorem dX7_singleUnit_106 : decode cX7_singleUnit 106 = .ok (.bipush (-2), 2) := by decide +kernel
theorem dX7_singleUnit_108 : decode cX7_singleUnit 108 = .ok (.ireturn, 1) := by decide +kernel
theorem dX7_singleUnit_109 : decode cX7_singleUnit 109 = .ok (.bipush (-3), 2) := by decide +kernel
theorem dX7_singleUnit_111 : decode cX7_singleUnit 111 = .ok (.ireturn, 1) := by decide +kernel
theorem dX7_singleUnit_112 : decode cX7_singleUnit 112 = .ok (.bipush (-4), 2) := by decide +kernel
theorem dX7_singleUnit_114 : decode cX7_singleUnit 114 = .ok (.ireturn, 1) := by decide +kernel
theorem dX7_singleUnit_115 : decode cX7_singleUnit 115 = .ok (.bipush (-5), 2) := by decide +kernel
theorem dX7_singleUnit_117 : decode cX7_singleUnit 117 = .ok (.ireturn, 1) := by decide +kernel
theorem dX7_singleUnit_118 : decode cX7_singleUnit 118 = .ok (.bipush (-6), 2) := by decide +kernel
theorem dX7_singleUnit_120 : decode cX7_singleUnit 120 = .ok (.ireturn, 1) := by decide +kernel
theorem dX7_isWord_0 : decode cX7_isWord 0 = .ok (.aload_n 0, 1) := by decide +kernel
theorem dX7_isWord_1 : decode cX7_isWord 1 = .ok (.getfield 68, 3) := by decide +kernel
theorem dX7_isWord_4 : decode cX7_isWord 4 = .ok (.iconst 1, 1) := by decide +kernel
theorem dX7_isWord_5 : decode cX7_isWord 5 = .ok (.if_icmp .ne 15, 3) := by decide +kernel
theorem dX7_isWord_8 : decode cX7_isWord 8 = .ok (.aload_n 0, 1) := by decide +kernel
theorem dX7_isWord_9 : decode cX7_isWord 9 = .ok (.getfield 88, 3) := by decide +kernel
theorem dX7_isWord_12 : decode cX7_isWord 12 = .ok (.iload_n 1, 1) := by decide +kernel
theorem dX7_isWord_13 : decode cX7_isWord 13 = .ok (.if_icmp .ne 7, 3) := by decide +kernel
theorem dX7_isWord_16 : decode cX7_isWord 16 = .ok (.iconst 1, 1) := by decide +kernel
theorem dX7_isWord_17 : decode cX7_isWord 17 = .ok (.goto 4, 3) := by decide +kernel
theorem dX7_isWord_20 : decode cX7_isWord 20 = .ok (.iconst 0, 1) := by decide +kernel
theorem dX7_isWord_21 : decode cX7_isWord 21 = .ok (.ireturn, 1) := by decide +kernel
theorem dX7_isName_0 : decode cX7_isName 0 = .ok (.aload_n 0, 1) := by decide +kernel
theorem dX7_isName_1 : decode cX7_isName 1 = .ok (.getfield 68, 3) := by decide +kernel
theorem dX7_isName_4 : decode cX7_isName 4 = .ok (.iconst 1, 1) := by decide +kernel
theorem dX7_isName_5 : decode cX7_isName 5 = .ok (.if_icmp .ne 15, 3) := by decide +kernel
theorem dX7_isName_8 : decode cX7_isName 8 = .ok (.aload_n 0, 1) := by decide +kernel
theorem dX7_isName_9 : decode cX7_isName 9 = .ok (.getfield 88, 3) := by decide +kernel
theorem dX7_isName_12 : decode cX7_isName 12 = .ok (.iconst (-1), 1) := by decide +kernel
theorem dX7_isName_13 : decode cX7_isName 13 = .ok (.if_icmp .ne 7, 3) := by decide +kernel
theorem dX7_isName_16 : decode cX7_isName 16 = .ok (.iconst 1, 1) := by decide +kernel
theorem dX7_isName_17 : decode cX7_isName 17 = .ok (.goto 4, 3) := by decide +kernel
theorem dX7_isName_20 : decode cX7_isName 20 = .ok (.iconst 0, 1) := by decide +kernel
theorem dX7_isName_21 : decode cX7_isName 21 = .ok (.ireturn, 1) := by decide +kernel
theorem dX7_isSign_0 : decode cX7_isSign 0 = .ok (.aload_n 0, 1) := by decide +kernel
theorem dX7_isSign_1 : decode cX7_isSign 1 = .ok (.getfield 68, 3) := by decide +kernel
theorem dX7_isSign_4 : decode cX7_isSign 4 = .ok (.iconst 3, 1) := by decide +kernel
theorem dX7_isSign_5 : decode cX7_isSign 5 = .ok (.if_icmp .ne 15, 3) := by decide +kernel
theorem dX7_isSign_8 : decode cX7_isSign 8 = .ok (.aload_n 0, 1) := by decide +kernel
theorem dX7_isSign_9 : decode cX7_isSign 9 = .ok (.getfield 88, 3) := by decide +kernel
theorem dX7_isSign_12 : decode cX7_isSign 12 = .ok (.iload_n 1, 1) := by decide +kernel
theorem dX7_isSign_13 : decode cX7_isSign 13 = .ok (.if_icmp .ne 7, 3) := by decide +kernel
theorem dX7_isSign_16 : decode cX7_isSign 16 = .ok (.iconst 1, 1) := by decide +kernel
theorem dX7_isSign_17 : decode cX7_isSign 17 = .ok (.goto 4, 3) := by decide +kernel
theorem dX7_isSign_20 : decode cX7_isSign 20 = .ok (.iconst 0, 1) := by decide +kernel
theorem dX7_isSign_21 : decode cX7_isSign 21 = .ok (.ireturn, 1) := by decide +kernel
theorem dX7_takeWord_0 : decode cX7_takeWord 0 = .ok (.aload_n 0, 1) := by decide +kernel
theorem dX7_takeWord_1 : decode cX7_takeWord 1 = .ok (.iload_n 1, 1) := by decide +kernel
theorem dX7_takeWord_2 : decode cX7_takeWord 2 = .ok (.invokevirtual 154, 3) := by decide +kernel
theorem dX7_takeWord_5 : decode cX7_takeWord 5 = .ok (.ifCond .ne 8, 3) := by decide +kernel
theorem dX7_takeWord_8 : decode cX7_takeWord 8 = .ok (.aload_n 0, 1) := by decide +kernel
theorem dX7_takeWord_9 : decode cX7_takeWord 9 = .ok (.invokevirtual 127, 3) := by decide +kernel
theorem dX7_takeWord_12 : decode cX7_takeWord 12 = .ok (.ireturn, 1) := by decide +kernel
theorem dX7_takeWord_13 : decode cX7_takeWord 13 = .ok (.aload_n 0, 1) := by decide +kernel
theorem dX7_takeWord_14 : decode cX7_takeWord 14 = .ok (.invokevirtual 62, 3) := by decide +kernel
theorem dX7_takeWord_17 : decode cX7_takeWord 17 = .ok (.iconst 1, 1) := by decide +kernel
theorem dX7_takeWord_18 : decode cX7_takeWord 18 = .ok (.ireturn, 1) := by decide +kernel
theorem dX7_takeSign_0 : decode cX7_takeSign 0 = .ok (.aload_n 0, 1) := by decide +kernel
theorem dX7_takeSign_1 : decode cX7_takeSign 1 = .ok (.iload_n 1, 1) := by decide +kernel
theorem dX7_takeSign_2 : decode cX7_takeSign 2 = .ok (.invokevirtual 228, 3) := by decide +kernel
theorem dX7_takeSign_5 : decode cX7_takeSign 5 = .ok (.ifCond .ne 8, 3) := by decide +kernel
theorem dX7_takeSign_8 : decode cX7_takeSign 8 = .ok (.aload_n 0, 1) := by decide +kernel
theorem dX7_takeSign_9 : decode cX7_takeSign 9 = .ok (.invokevirtual 127, 3) := by decide +kernel
theorem dX7_takeSign_12 : decode cX7_takeSign 12 = .ok (.ireturn, 1) := by decide +kernel
theorem dX7_takeSign_13 : decode cX7_takeSign 13 = .ok (.aload_n 0, 1) := by decide +kernel
theorem dX7_takeSign_14 : decode cX7_takeSign 14 = .ok (.invokevirtual 62, 3) := by decide +kernel
theorem dX7_takeSign_17 : decode cX7_takeSign 17 = .ok (.iconst 1, 1) := by decide +kernel
theorem dX7_takeSign_18 : decode cX7_takeSign 18 = .ok (.ireturn, 1) := by decide +kernel
theorem dX7_takeNumber_0 : decode cX7_takeNumber 0 = .ok (.aload_n 0, 1) := by decide +kernel
theorem dX7_takeNumber_1 : decode cX7_takeNumber 1 = .ok (.getfield 68, 3) := by decide +kernel
theorem dX7_takeNumber_4 : decode cX7_takeNumber 4 = .ok (.iconst 2, 1) := by decide +kernel
theorem dX7_takeNumber_5 : decode cX7_takeNumber 5 = .ok (.if_icmp .eq 8, 3) := by decide +kernel
theorem dX7_takeNumber_8 : decode cX7_takeNumber 8 = .ok (.aload_n 0, 1) := by decide +kernel
theorem dX7_takeNumber_9 : decode cX7_takeNumber 9 = .ok (.invokevirtual 127, 3) := by decide +kernel
theorem dX7_takeNumber_12 : decode cX7_takeNumber 12 = .ok (.ireturn, 1) := by decide +kernel
theorem dX7_takeNumber_13 : decode cX7_takeNumber 13 = .ok (.aload_n 0, 1) := by decide +kernel
theorem dX7_takeNumber_14 : decode cX7_takeNumber 14 = .ok (.getfield 88, 3) := by decide +kernel
theorem dX7_takeNumber_17 : decode cX7_takeNumber 17 = .ok (.iload_n 1, 1) := by decide +kernel
theorem dX7_takeNumber_18 : decode cX7_takeNumber 18 = .ok (.if_icmp .lt 11, 3) := by decide +kernel
theorem dX7_takeNumber_21 : decode cX7_takeNumber 21 = .ok (.aload_n 0, 1) := by decide +kernel
theorem dX7_takeNumber_22 : decode cX7_takeNumber 22 = .ok (.getfield 88, 3) := by decide +kernel
theorem dX7_takeNumber_25 : decode cX7_takeNumber 25 = .ok (.iload_n 2, 1) := by decide +kernel
theorem dX7_takeNumber_26 : decode cX7_takeNumber 26 = .ok (.if_icmp .le 13, 3) := by decide +kernel
theorem dX7_takeNumber_29 : decode cX7_takeNumber 29 = .ok (.aload_n 0, 1) := by decide +kernel
theorem dX7_takeNumber_30 : decode cX7_takeNumber 30 = .ok (.iconst 4, 1) := by decide +kernel
theorem dX7_takeNumber_31 : decode cX7_takeNumber 31 = .ok (.aload_n 0, 1) := by decide +kernel
theorem dX7_takeNumber_32 : decode cX7_takeNumber 32 = .ok (.getfield 182, 3) := by decide +kernel
theorem dX7_takeNumber_35 : decode cX7_takeNumber 35 = .ok (.invokevirtual 191, 3) := by decide +kernel
theorem dX7_takeNumber_38 : decode cX7_takeNumber 38 = .ok (.ireturn, 1) := by decide +kernel
theorem dX7_takeNumber_39 : decode cX7_takeNumber 39 = .ok (.aload_n 0, 1) := by decide +kernel
theorem dX7_takeNumber_40 : decode cX7_takeNumber 40 = .ok (.aload_n 0, 1) := by decide +kernel
theorem dX7_takeNumber_41 : decode cX7_takeNumber 41 = .ok (.getfield 88, 3) := by decide +kernel
theorem dX7_takeNumber_44 : decode cX7_takeNumber 44 = .ok (.putfield 134, 3) := by decide +kernel
theorem dX7_takeNumber_47 : decode cX7_takeNumber 47 = .ok (.aload_n 0, 1) := by decide +kernel
theorem dX7_takeNumber_48 : decode cX7_takeNumber 48 = .ok (.invokevirtual 62, 3) := by decide +kernel
theorem dX7_takeNumber_51 : decode cX7_takeNumber 51 = .ok (.iconst 1, 1) := by decide +kernel
theorem dX7_takeNumber_52 : decode cX7_takeNumber 52 = .ok (.ireturn, 1) := by decide +kernel
theorem dX7_takeSaying_0 : decode cX7_takeSaying 0 = .ok (.aload_n 0, 1) := by decide +kernel
theorem dX7_takeSaying_1 : decode cX7_takeSaying 1 = .ok (.getfield 182, 3) := by decide +kernel
theorem dX7_takeSaying_4 : decode cX7_takeSaying 4 = .ok (.istore_n 1, 1) := by decide +kernel
theorem dX7_takeSaying_5 : decode cX7_takeSaying 5 = .ok (.aload_n 0, 1) := by decide +kernel
theorem dX7_takeSaying_6 : decode cX7_takeSaying 6 = .ok (.bipush 45, 2) := by decide +kernel
theorem dX7_takeSaying_8 : decode cX7_takeSaying 8 = .ok (.invokevirtual 228, 3) := by decide +kernel
theorem dX7_takeSaying_11 : decode cX7_takeSaying 11 = .ok (.istore_n 2, 1) := by decide +kernel
theorem dX7_takeSaying_12 : decode cX7_takeSaying 12 = .ok (.iload_n 2, 1) := by decide +kernel
theorem dX7_takeSaying_13 : decode cX7_takeSaying 13 = .ok (.ifCond .eq 7, 3) := by decide +kernel
theorem dX7_takeSaying_16 : decode cX7_takeSaying 16 = .ok (.aload_n 0, 1) := by decide +kernel
theorem dX7_takeSaying_17 : decode cX7_takeSaying 17 = .ok (.invokevirtual 62, 3) := by decide +kernel
theorem dX7_takeSaying_20 : decode cX7_takeSaying 20 = .ok (.aload_n 0, 1) := by decide +kernel
theorem dX7_takeSaying_21 : decode cX7_takeSaying 21 = .ok (.getfield 68, 3) := by decide +kernel
theorem dX7_takeSaying_24 : decode cX7_takeSaying 24 = .ok (.iconst 2, 1) := by decide +kernel
theorem dX7_takeSaying_25 : decode cX7_takeSaying 25 = .ok (.if_icmp .eq 8, 3) := by decide +kernel
theorem dX7_takeSaying_28 : decode cX7_takeSaying 28 = .ok (.aload_n 0, 1) := by decide +kernel
theorem dX7_takeSaying_29 : decode cX7_takeSaying 29 = .ok (.invokevirtual 127, 3) := by decide +kernel
theorem dX7_takeSaying_32 : decode cX7_takeSaying 32 = .ok (.ireturn, 1) := by decide +kernel
theorem dX7_takeSaying_33 : decode cX7_takeSaying 33 = .ok (.aload_n 0, 1) := by decide +kernel
theorem dX7_takeSaying_34 : decode cX7_takeSaying 34 = .ok (.getfield 88, 3) := by decide +kernel
theorem dX7_takeSaying_37 : decode cX7_takeSaying 37 = .ok (.bipush 9, 2) := by decide +kernel
theorem dX7_takeSaying_39 : decode cX7_takeSaying 39 = .ok (.if_icmp .le 10, 3) := by decide +kernel
theorem dX7_takeSaying_42 : decode cX7_takeSaying 42 = .ok (.aload_n 0, 1) := by decide +kernel
theorem dX7_takeSaying_43 : decode cX7_takeSaying 43 = .ok (.iconst 4, 1) := by decide +kernel
theorem dX7_takeSaying_44 : decode cX7_takeSaying 44 = .ok (.iload_n 1, 1) := by decide +kernel
theorem dX7_takeSaying_45 : decode cX7_takeSaying 45 = .ok (.invokevirtual 191, 3) := by decide +kernel
theorem dX7_takeSaying_48 : decode cX7_takeSaying 48 = .ok (.ireturn, 1) := by decide +kernel
theorem dX7_takeSaying_49 : decode cX7_takeSaying 49 = .ok (.aload_n 0, 1) := by decide +kernel
theorem dX7_takeSaying_50 : decode cX7_takeSaying 50 = .ok (.iload_n 2, 1) := by decide +kernel
theorem dX7_takeSaying_51 : decode cX7_takeSaying 51 = .ok (.ifCond .eq 11, 3) := by decide +kernel
theorem dX7_takeSaying_54 : decode cX7_takeSaying 54 = .ok (.aload_n 0, 1) := by decide +kernel
theorem dX7_takeSaying_55 : decode cX7_takeSaying 55 = .ok (.getfield 88, 3) := by decide +kernel
theorem dX7_takeSaying_58 : decode cX7_takeSaying 58 = .ok (.ineg, 1) := by decide +kernel
theorem dX7_takeSaying_59 : decode cX7_takeSaying 59 = .ok (.goto 7, 3) := by decide +kernel
theorem dX7_takeSaying_62 : decode cX7_takeSaying 62 = .ok (.aload_n 0, 1) := by decide +kernel
theorem dX7_takeSaying_63 : decode cX7_takeSaying 63 = .ok (.getfield 88, 3) := by decide +kernel
theorem dX7_takeSaying_66 : decode cX7_takeSaying 66 = .ok (.putfield 134, 3) := by decide +kernel
theorem dX7_takeSaying_69 : decode cX7_takeSaying 69 = .ok (.aload_n 0, 1) := by decide +kernel
theorem dX7_takeSaying_70 : decode cX7_takeSaying 70 = .ok (.invokevirtual 62, 3) := by decide +kernel
theorem dX7_takeSaying_73 : decode cX7_takeSaying 73 = .ok (.iconst 1, 1) := by decide +kernel
theorem dX7_takeSaying_74 : decode cX7_takeSaying 74 = .ok (.ireturn, 1) := by decide +kernel
theorem dX7_takeKnown_0 : decode cX7_takeKnown 0 = .ok (.aload_n 0, 1) := by decide +kernel
theorem dX7_takeKnown_1 : decode cX7_takeKnown 1 = .ok (.invokevirtual 203, 3) := by decide +kernel
theorem dX7_takeKnown_4 : decode cX7_takeKnown 4 = .ok (.ifCond .ne 8, 3) := by decide +kernel
theorem dX7_takeKnown_7 : decode cX7_takeKnown 7 = .ok (.aload_n 0, 1) := by decide +kernel
theorem dX7_takeKnown_8 : decode cX7_takeKnown 8 = .ok (.invokevirtual 127, 3) := by decide +kernel
theorem dX7_takeKnown_11 : decode cX7_takeKnown 11 = .ok (.ireturn, 1) := by decide +kernel
theorem dX7_takeKnown_12 : decode cX7_takeKnown 12 = .ok (.aload_n 0, 1) := by decide +kernel
theorem dX7_takeKnown_13 : decode cX7_takeKnown 13 = .ok (.aload_n 0, 1) := by decide +kernel
theorem dX7_takeKnown_14 : decode cX7_takeKnown 14 = .ok (.iload_n 1, 1) := by decide +kernel
theorem dX7_takeKnown_15 : decode cX7_takeKnown 15 = .ok (.iload_n 2, 1) := by decide +kernel
theorem dX7_takeKnown_16 : decode cX7_takeKnown 16 = .ok (.invokevirtual 206, 3) := by decide +kernel
theorem dX7_takeKnown_19 : decode cX7_takeKnown 19 = .ok (.putfield 134, 3) := by decide +kernel
theorem dX7_takeKnown_22 : decode cX7_takeKnown 22 = .ok (.aload_n 0, 1) := by decide +kernel
theorem dX7_takeKnown_23 : decode cX7_takeKnown 23 = .ok (.getfield 134, 3) := by decide +kernel
theorem dX7_takeKnown_26 : decode cX7_takeKnown 26 = .ok (.iconst (-1), 1) := by decide +kernel
theorem dX7_takeKnown_27 : decode cX7_takeKnown 27 = .ok (.if_icmp .ne 13, 3) := by decide +kernel
theorem dX7_takeKnown_30 : decode cX7_takeKnown 30 = .ok (.aload_n 0, 1) := by decide +kernel
theorem dX7_takeKnown_31 : decode cX7_takeKnown 31 = .ok (.iconst 5, 1) := by decide +kernel
theorem dX7_takeKnown_32 : decode cX7_takeKnown 32 = .ok (.aload_n 0, 1) := by decide +kernel
theorem dX7_takeKnown_33 : decode cX7_takeKnown 33 = .ok (.getfield 182, 3) := by decide +kernel
theorem dX7_takeKnown_36 : decode cX7_takeKnown 36 = .ok (.invokevirtual 191, 3) := by decide +kernel
theorem dX7_takeKnown_39 : decode cX7_takeKnown 39 = .ok (.ireturn, 1) := by decide +kernel
theorem dX7_takeKnown_40 : decode cX7_takeKnown 40 = .ok (.aload_n 0, 1) := by decide +kernel
theorem dX7_takeKnown_41 : decode cX7_takeKnown 41 = .ok (.invokevirtual 62, 3) := by decide +kernel
theorem dX7_takeKnown_44 : decode cX7_takeKnown 44 = .ok (.iconst 1, 1) := by decide +kernel
theorem dX7_takeKnown_45 : decode cX7_takeKnown 45 = .ok (.ireturn, 1) := by decide +kernel
theorem dX7_findName_0 : decode cX7_findName 0 = .ok (.iconst 0, 1) := by decide +kernel
theorem dX7_findName_1 : decode cX7_findName 1 = .ok (.istore_n 3, 1) := by decide +kernel
theorem dX7_findName_2 : decode cX7_findName 2 = .ok (.iload_n 3, 1) := by decide +kernel
theorem dX7_findName_3 : decode cX7_findName 3 = .ok (.iload_n 2, 1) := by decide +kernel
theorem dX7_findName_4 : decode cX7_findName 4 = .ok (.if_icmp .ge 46, 3) := by decide +kernel
theorem dX7_findName_7 : decode cX7_findName 7 = .ok (.iload_n 1, 1) := by decide +kernel
theorem dX7_findName_8 : decode cX7_findName 8 = .ok (.iload_n 3, 1) := by decide +kernel
theorem dX7_findName_9 : decode cX7_findName 9 = .ok (.iadd, 1) := by decide +kernel
theorem dX7_findName_10 : decode cX7_findName 10 = .ok (.istore 4, 2) := by decide +kernel
theorem dX7_findName_12 : decode cX7_findName 12 = .ok (.iload 4, 2) := by decide +kernel
theorem dX7_findName_14 : decode cX7_findName 14 = .ok (.ifCond .lt 30, 3) := by decide +kernel
theorem dX7_findName_17 : decode cX7_findName 17 = .ok (.iload 4, 2) := by decide +kernel
theorem dX7_findName_19 : decode cX7_findName 19 = .ok (.aload_n 0, 1) := by decide +kernel
theorem dX7_findName_20 : decode cX7_findName 20 = .ok (.getfield 21, 3) := by decide +kernel
theorem dX7_findName_23 : decode cX7_findName 23 = .ok (.arraylength, 1) := by decide +kernel
theorem dX7_findName_24 : decode cX7_findName 24 = .ok (.if_icmp .ge 20, 3) := by decide +kernel
theorem dX7_findName_27 : decode cX7_findName 27 = .ok (.aload_n 0, 1) := by decide +kernel
theorem dX7_findName_28 : decode cX7_findName 28 = .ok (.getfield 21, 3) := by decide +kernel
theorem dX7_findName_31 : decode cX7_findName 31 = .ok (.iload 4, 2) := by decide +kernel
theorem dX7_findName_33 : decode cX7_findName 33 = .ok (.laload, 1) := by decide +kernel
theorem dX7_findName_34 : decode cX7_findName 34 = .ok (.aload_n 0, 1) := by decide +kernel
theorem dX7_findName_35 : decode cX7_findName 35 = .ok (.getfield 209, 3) := by decide +kernel
theorem dX7_findName_38 : decode cX7_findName 38 = .ok (.lcmp, 1) := by decide +kernel
theorem dX7_findName_39 : decode cX7_findName 39 = .ok (.ifCond .ne 5, 3) := by decide +kernel
theorem dX7_findName_42 : decode cX7_findName 42 = .ok (.iload_n 3, 1) := by decide +kernel
theorem dX7_findName_43 : decode cX7_findName 43 = .ok (.ireturn, 1) := by decide +kernel
theorem dX7_findName_44 : decode cX7_findName 44 = .ok (.iinc 3 1, 3) := by decide +kernel
theorem dX7_findName_47 : decode cX7_findName 47 = .ok (.goto (-45), 3) := by decide +kernel
theorem dX7_findName_50 : decode cX7_findName 50 = .ok (.iconst (-1), 1) := by decide +kernel
theorem dX7_findName_51 : decode cX7_findName 51 = .ok (.ireturn, 1) := by decide +kernel
theorem dX7_refuseToken_0 : decode cX7_refuseToken 0 = .ok (.aload_n 0, 1) := by decide +kernel
theorem dX7_refuseToken_1 : decode cX7_refuseToken 1 = .ok (.aload_n 0, 1) := by decide +kernel
theorem dX7_refuseToken_2 : decode cX7_refuseToken 2 = .ok (.getfield 68, 3) := by decide +kernel
theorem dX7_refuseToken_5 : decode cX7_refuseToken 5 = .ok (.iconst 4, 1) := by decide +kernel
theorem dX7_refuseToken_6 : decode cX7_refuseToken 6 = .ok (.if_icmp .ne 7, 3) := by decide +kernel
theorem dX7_refuseToken_9 : decode cX7_refuseToken 9 = .ok (.iconst 1, 1) := by decide +kernel
theorem dX7_refuseToken_10 : decode cX7_refuseToken 10 = .ok (.goto 4, 3) := by decide +kernel
theorem dX7_refuseToken_13 : decode cX7_refuseToken 13 = .ok (.iconst 2, 1) := by decide +kernel
theorem dX7_refuseToken_14 : decode cX7_refuseToken 14 = .ok (.aload_n 0, 1) := by decide +kernel
theorem dX7_refuseToken_15 : decode cX7_refuseToken 15 = .ok (.getfield 182, 3) := by decide +kernel
theorem dX7_refuseToken_18 : decode cX7_refuseToken 18 = .ok (.invokevirtual 191, 3) := by decide +kernel
theorem dX7_refuseToken_21 : decode cX7_refuseToken 21 = .ok (.ireturn, 1) := by decide +kernel
theorem dX7_refuse_0 : decode cX7_refuse 0 = .ok (.aload_n 0, 1) := by decide +kernel
theorem dX7_refuse_1 : decode cX7_refuse 1 = .ok (.iload_n 1, 1) := by decide +kernel
theorem dX7_refuse_2 : decode cX7_refuse 2 = .ok (.putfield 40, 3) := by decide +kernel
theorem dX7_refuse_5 : decode cX7_refuse 5 = .ok (.aload_n 0, 1) := by decide +kernel
theorem dX7_refuse_6 : decode cX7_refuse 6 = .ok (.iload_n 2, 1) := by decide +kernel
theorem dX7_refuse_7 : decode cX7_refuse 7 = .ok (.putfield 13, 3) := by decide +kernel
theorem dX7_refuse_10 : decode cX7_refuse 10 = .ok (.iconst 0, 1) := by decide +kernel
theorem dX7_refuse_11 : decode cX7_refuse 11 = .ok (.ireturn, 1) := by decide +kernel
theorem dX7_step_0 : decode cX7_step 0 = .ok (.aload_n 0, 1) := by decide +kernel
theorem dX7_step_1 : decode cX7_step 1 = .ok (.aload_n 0, 1) := by decide +kernel
theorem dX7_step_2 : decode cX7_step 2 = .ok (.getfield 51, 3) := by decide +kernel
theorem dX7_step_5 : decode cX7_step 5 = .ok (.putfield 182, 3) := by decide +kernel
theorem dX7_step_8 : decode cX7_step 8 = .ok (.aload_n 0, 1) := by decide +kernel
theorem dX7_step_9 : decode cX7_step 9 = .ok (.getfield 182, 3) := by decide +kernel
theorem dX7_step_12 : decode cX7_step 12 = .ok (.aload_n 0, 1) := by decide +kernel
theorem dX7_step_13 : decode cX7_step 13 = .ok (.getfield 49, 3) := by decide +kernel
theorem dX7_step_16 : decode cX7_step 16 = .ok (.if_icmp .ge 44, 3) := by decide +kernel
theorem dX7_step_19 : decode cX7_step 19 = .ok (.aload_n 0, 1) := by decide +kernel
theorem dX7_step_20 : decode cX7_step 20 = .ok (.getfield 17, 3) := by decide +kernel
theorem dX7_step_23 : decode cX7_step 23 = .ok (.aload_n 0, 1) := by decide +kernel
theorem dX7_step_24 : decode cX7_step 24 = .ok (.getfield 182, 3) := by decide +kernel
theorem dX7_step_27 : decode cX7_step 27 = .ok (.baload, 1) := by decide +kernel
theorem dX7_step_28 : decode cX7_step 28 = .ok (.bipush 32, 2) := by decide +kernel
theorem dX7_step_30 : decode cX7_step 30 = .ok (.if_icmp .eq 17, 3) := by decide +kernel
theorem dX7_step_33 : decode cX7_step 33 = .ok (.aload_n 0, 1) := by decide +kernel
theorem dX7_step_34 : decode cX7_step 34 = .ok (.getfield 17, 3) := by decide +kernel
theorem dX7_step_37 : decode cX7_step 37 = .ok (.aload_n 0, 1) := by decide +kernel
theorem dX7_step_38 : decode cX7_step 38 = .ok (.getfield 182, 3) := by decide +kernel
theorem dX7_step_41 : decode cX7_step 41 = .ok (.baload, 1) := by decide +kernel
theorem dX7_step_42 : decode cX7_step 42 = .ok (.bipush 10, 2) := by decide +kernel
theorem dX7_step_44 : decode cX7_step 44 = .ok (.if_icmp .ne 16, 3) := by decide +kernel
theorem dX7_step_47 : decode cX7_step 47 = .ok (.aload_n 0, 1) := by decide +kernel
theorem dX7_step_48 : decode cX7_step 48 = .ok (.dup, 1) := by decide +kernel
theorem dX7_step_49 : decode cX7_step 49 = .ok (.getfield 182, 3) := by decide +kernel
theorem dX7_step_52 : decode cX7_step 52 = .ok (.iconst 1, 1) := by decide +kernel
theorem dX7_step_53 : decode cX7_step 53 = .ok (.iadd, 1) := by decide +kernel
theorem dX7_step_54 : decode cX7_step 54 = .ok (.putfield 182, 3) := by decide +kernel
theorem dX7_step_57 : decode cX7_step 57 = .ok (.goto (-49), 3) := by decide +kernel
theorem dX7_step_60 : decode cX7_step 60 = .ok (.aload_n 0, 1) := by decide +kernel
theorem dX7_step_61 : decode cX7_step 61 = .ok (.aload_n 0, 1) := by decide +kernel
theorem dX7_step_62 : decode cX7_step 62 = .ok (.getfield 182, 3) := by decide +kernel
theorem dX7_step_65 : decode cX7_step 65 = .ok (.putfield 51, 3) := by decide +kernel
theorem dX7_step_68 : decode cX7_step 68 = .ok (.aload_n 0, 1) := by decide +kernel
theorem dX7_step_69 : decode cX7_step 69 = .ok (.getfield 182, 3) := by decide +kernel
theorem dX7_step_72 : decode cX7_step 72 = .ok (.aload_n 0, 1) := by decide +kernel
theorem dX7_step_73 : decode cX7_step 73 = .ok (.getfield 49, 3) := by decide +kernel
theorem dX7_step_76 : decode cX7_step 76 = .ok (.if_icmp .lt 11, 3) := by decide +kernel
theorem dX7_step_79 : decode cX7_step 79 = .ok (.aload_n 0, 1) := by decide +kernel
theorem dX7_step_80 : decode cX7_step 80 = .ok (.iconst 0, 1) := by decide +kernel
theorem dX7_step_81 : decode cX7_step 81 = .ok (.putfield 68, 3) := by decide +kernel
theorem dX7_step_84 : decode cX7_step 84 = .ok (.goto 122, 3) := by decide +kernel
theorem dX7_step_87 : decode cX7_step 87 = .ok (.aload_n 0, 1) := by decide +kernel
theorem dX7_step_88 : decode cX7_step 88 = .ok (.getfield 17, 3) := by decide +kernel
theorem dX7_step_91 : decode cX7_step 91 = .ok (.aload_n 0, 1) := by decide +kernel
theorem dX7_step_92 : decode cX7_step 92 = .ok (.getfield 182, 3) := by decide +kernel
theorem dX7_step_95 : decode cX7_step 95 = .ok (.baload, 1) := by decide +kernel
theorem dX7_step_96 : decode cX7_step 96 = .ok (.bipush 97, 2) := by decide +kernel
theorem dX7_step_98 : decode cX7_step 98 = .ok (.if_icmp .lt 24, 3) := by decide +kernel
theorem dX7_step_101 : decode cX7_step 101 = .ok (.aload_n 0, 1) := by decide +kernel
theorem dX7_step_102 : decode cX7_step 102 = .ok (.getfield 17, 3) := by decide +kernel
theorem dX7_step_105 : decode cX7_step 105 = .ok (.aload_n 0, 1) := by decide +kernel
theorem dX7_step_106 : decode cX7_step 106 = .ok (.getfield 182, 3) := by decide +kernel
theorem dX7_step_109 : decode cX7_step 109 = .ok (.baload, 1) := by decide +kernel
theorem dX7_step_110 : decode cX7_step 110 = .ok (.bipush 122, 2) := by decide +kernel
theorem dX7_step_112 : decode cX7_step 112 = .ok (.if_icmp .gt 10, 3) := by decide +kernel
theorem dX7_step_115 : decode cX7_step 115 = .ok (.aload_n 0, 1) := by decide +kernel
theorem dX7_step_116 : decode cX7_step 116 = .ok (.invokevirtual 237, 3) := by decide +kernel
theorem dX7_step_119 : decode cX7_step 119 = .ok (.goto 87, 3) := by decide +kernel
theorem dX7_step_122 : decode cX7_step 122 = .ok (.aload_n 0, 1) := by decide +kernel
theorem dX7_step_123 : decode cX7_step 123 = .ok (.getfield 17, 3) := by decide +kernel
theorem dX7_step_126 : decode cX7_step 126 = .ok (.aload_n 0, 1) := by decide +kernel
theorem dX7_step_127 : decode cX7_step 127 = .ok (.getfield 182, 3) := by decide +kernel
theorem dX7_step_130 : decode cX7_step 130 = .ok (.baload, 1) := by decide +kernel
theorem dX7_step_131 : decode cX7_step 131 = .ok (.bipush 48, 2) := by decide +kernel
theorem dX7_step_133 : decode cX7_step 133 = .ok (.if_icmp .lt 24, 3) := by decide +kernel
theorem dX7_step_136 : decode cX7_step 136 = .ok (.aload_n 0, 1) := by decide +kernel
theorem dX7_step_137 : decode cX7_step 137 = .ok (.getfield 17, 3) := by decide +kernel
theorem dX7_step_140 : decode cX7_step 140 = .ok (.aload_n 0, 1) := by decide +kernel
theorem dX7_step_141 : decode cX7_step 141 = .ok (.getfield 182, 3) := by decide +kernel
theorem dX7_step_144 : decode cX7_step 144 = .ok (.baload, 1) := by decide +kernel
theorem dX7_step_145 : decode cX7_step 145 = .ok (.bipush 57, 2) := by decide +kernel
theorem dX7_step_147 : decode cX7_step 147 = .ok (.if_icmp .gt 10, 3) := by decide +kernel
theorem dX7_step_150 : decode cX7_step 150 = .ok (.aload_n 0, 1) := by decide +kernel
theorem dX7_step_151 : decode cX7_step 151 = .ok (.invokevirtual 240, 3) := by decide +kernel
theorem dX7_step_154 : decode cX7_step 154 = .ok (.goto 52, 3) := by decide +kernel
theorem dX7_step_157 : decode cX7_step 157 = .ok (.aload_n 0, 1) := by decide +kernel
theorem dX7_step_158 : decode cX7_step 158 = .ok (.aload_n 0, 1) := by decide +kernel
theorem dX7_step_159 : decode cX7_step 159 = .ok (.getfield 17, 3) := by decide +kernel
theorem dX7_step_162 : decode cX7_step 162 = .ok (.aload_n 0, 1) := by decide +kernel
theorem dX7_step_163 : decode cX7_step 163 = .ok (.getfield 182, 3) := by decide +kernel
theorem dX7_step_166 : decode cX7_step 166 = .ok (.baload, 1) := by decide +kernel
theorem dX7_step_167 : decode cX7_step 167 = .ok (.sipush 255, 3) := by decide +kernel
theorem dX7_step_170 : decode cX7_step 170 = .ok (.iand, 1) := by decide +kernel
theorem dX7_step_171 : decode cX7_step 171 = .ok (.putfield 88, 3) := by decide +kernel
theorem dX7_step_174 : decode cX7_step 174 = .ok (.aload_n 0, 1) := by decide +kernel
theorem dX7_step_175 : decode cX7_step 175 = .ok (.ldc 243, 2) := by decide +kernel
theorem dX7_step_177 : decode cX7_step 177 = .ok (.aload_n 0, 1) := by decide +kernel
theorem dX7_step_178 : decode cX7_step 178 = .ok (.getfield 88, 3) := by decide +kernel
theorem dX7_step_181 : decode cX7_step 181 = .ok (.i2c, 1) := by decide +kernel
theorem dX7_step_182 : decode cX7_step 182 = .ok (.invokevirtual 245, 3) := by decide +kernel
theorem dX7_step_185 : decode cX7_step 185 = .ok (.ifCond .lt 7, 3) := by decide +kernel
theorem dX7_step_188 : decode cX7_step 188 = .ok (.iconst 3, 1) := by decide +kernel
theorem dX7_step_189 : decode cX7_step 189 = .ok (.goto 4, 3) := by decide +kernel
theorem dX7_step_192 : decode cX7_step 192 = .ok (.iconst 4, 1) := by decide +kernel
theorem dX7_step_193 : decode cX7_step 193 = .ok (.putfield 68, 3) := by decide +kernel
theorem dX7_step_196 : decode cX7_step 196 = .ok (.aload_n 0, 1) := by decide +kernel
theorem dX7_step_197 : decode cX7_step 197 = .ok (.aload_n 0, 1) := by decide +kernel
theorem dX7_step_198 : decode cX7_step 198 = .ok (.getfield 182, 3) := by decide +kernel
theorem dX7_step_201 : decode cX7_step 201 = .ok (.iconst 1, 1) := by decide +kernel
theorem dX7_step_202 : decode cX7_step 202 = .ok (.iadd, 1) := by decide +kernel
theorem dX7_step_203 : decode cX7_step 203 = .ok (.putfield 51, 3) := by decide +kernel
theorem dX7_step_206 : decode cX7_step 206 = .ok (.return_, 1) := by decide +kernel
theorem dX7_stepWord_0 : decode cX7_stepWord 0 = .ok (.aload_n 0, 1) := by decide +kernel
theorem dX7_stepWord_1 : decode cX7_stepWord 1 = .ok (.lconst 0, 1) := by decide +kernel
theorem dX7_stepWord_2 : decode cX7_stepWord 2 = .ok (.putfield 209, 3) := by decide +kernel
theorem dX7_stepWord_5 : decode cX7_stepWord 5 = .ok (.aload_n 0, 1) := by decide +kernel
theorem dX7_stepWord_6 : decode cX7_stepWord 6 = .ok (.getfield 51, 3) := by decide +kernel
theorem dX7_stepWord_9 : decode cX7_stepWord 9 = .ok (.aload_n 0, 1) := by decide +kernel
theorem dX7_stepWord_10 : decode cX7_stepWord 10 = .ok (.getfield 49, 3) := by decide +kernel
theorem dX7_stepWord_13 : decode cX7_stepWord 13 = .ok (.if_icmp .ge 70, 3) := by decide +kernel
theorem dX7_stepWord_16 : decode cX7_stepWord 16 = .ok (.aload_n 0, 1) := by decide +kernel
theorem dX7_stepWord_17 : decode cX7_stepWord 17 = .ok (.getfield 17, 3) := by decide +kernel
theorem dX7_stepWord_20 : decode cX7_stepWord 20 = .ok (.aload_n 0, 1) := by decide +kernel
theorem dX7_stepWord_21 : decode cX7_stepWord 21 = .ok (.getfield 51, 3) := by decide +kernel
theorem dX7_stepWord_24 : decode cX7_stepWord 24 = .ok (.baload, 1) := by decide +kernel
theorem dX7_stepWord_25 : decode cX7_stepWord 25 = .ok (.bipush 97, 2) := by decide +kernel
theorem dX7_stepWord_27 : decode cX7_stepWord 27 = .ok (.if_icmp .lt 56, 3) := by decide +kernel
theorem dX7_stepWord_30 : decode cX7_stepWord 30 = .ok (.aload_n 0, 1) := by decide +kernel
theorem dX7_stepWord_31 : decode cX7_stepWord 31 = .ok (.getfield 17, 3) := by decide +kernel
theorem dX7_stepWord_34 : decode cX7_stepWord 34 = .ok (.aload_n 0, 1) := by decide +kernel
theorem dX7_stepWord_35 : decode cX7_stepWord 35 = .ok (.getfield 51, 3) := by decide +kernel
theorem dX7_stepWord_38 : decode cX7_stepWord 38 = .ok (.baload, 1) := by decide +kernel
theorem dX7_stepWord_39 : decode cX7_stepWord 39 = .ok (.bipush 122, 2) := by decide +kernel
theorem dX7_stepWord_41 : decode cX7_stepWord 41 = .ok (.if_icmp .gt 42, 3) := by decide +kernel
theorem dX7_stepWord_44 : decode cX7_stepWord 44 = .ok (.aload_n 0, 1) := by decide +kernel
theorem dX7_stepWord_45 : decode cX7_stepWord 45 = .ok (.aload_n 0, 1) := by decide +kernel
theorem dX7_stepWord_46 : decode cX7_stepWord 46 = .ok (.getfield 209, 3) := by decide +kernel
theorem dX7_stepWord_49 : decode cX7_stepWord 49 = .ok (.iconst 5, 1) := by decide +kernel
theorem dX7_stepWord_50 : decode cX7_stepWord 50 = .ok (.lshl, 1) := by decide +kernel
theorem dX7_stepWord_51 : decode cX7_stepWord 51 = .ok (.aload_n 0, 1) := by decide +kernel
theorem dX7_stepWord_52 : decode cX7_stepWord 52 = .ok (.getfield 17, 3) := by decide +kernel
theorem dX7_stepWord_55 : decode cX7_stepWord 55 = .ok (.aload_n 0, 1) := by decide +kernel
theorem dX7_stepWord_56 : decode cX7_stepWord 56 = .ok (.getfield 51, 3) := by decide +kernel
theorem dX7_stepWord_59 : decode cX7_stepWord 59 = .ok (.baload, 1) := by decide +kernel
theorem dX7_stepWord_60 : decode cX7_stepWord 60 = .ok (.bipush 97, 2) := by decide +kernel
theorem dX7_stepWord_62 : decode cX7_stepWord 62 = .ok (.isub, 1) := by decide +kernel
theorem dX7_stepWord_63 : decode cX7_stepWord 63 = .ok (.iconst 1, 1) := by decide +kernel
theorem dX7_stepWord_64 : decode cX7_stepWord 64 = .ok (.iadd, 1) := by decide +kernel
theorem dX7_stepWord_65 : decode cX7_stepWord 65 = .ok (.i2l, 1) := by decide +kernel
theorem dX7_stepWord_66 : decode cX7_stepWord 66 = .ok (.lor, 1) := by decide +kernel
theorem dX7_stepWord_67 : decode cX7_stepWord 67 = .ok (.putfield 209, 3) := by decide +kernel
theorem dX7_stepWord_70 : decode cX7_stepWord 70 = .ok (.aload_n 0, 1) := by decide +kernel
theorem dX7_stepWord_71 : decode cX7_stepWord 71 = .ok (.dup, 1) := by decide +kernel
theorem dX7_stepWord_72 : decode cX7_stepWord 72 = .ok (.getfield 51, 3) := by decide +kernel
theorem dX7_stepWord_75 : decode cX7_stepWord 75 = .ok (.iconst 1, 1) := by decide +kernel
theorem dX7_stepWord_76 : decode cX7_stepWord 76 = .ok (.iadd, 1) := by decide +kernel
theorem dX7_stepWord_77 : decode cX7_stepWord 77 = .ok (.putfield 51, 3) := by decide +kernel
theorem dX7_stepWord_80 : decode cX7_stepWord 80 = .ok (.goto (-75), 3) := by decide +kernel
theorem dX7_stepWord_83 : decode cX7_stepWord 83 = .ok (.aload_n 0, 1) := by decide +kernel
theorem dX7_stepWord_84 : decode cX7_stepWord 84 = .ok (.aload_n 0, 1) := by decide +kernel
theorem dX7_stepWord_85 : decode cX7_stepWord 85 = .ok (.getfield 51, 3) := by decide +kernel
theorem dX7_stepWord_88 : decode cX7_stepWord 88 = .ok (.aload_n 0, 1) := by decide +kernel
theorem dX7_stepWord_89 : decode cX7_stepWord 89 = .ok (.getfield 182, 3) := by decide +kernel
theorem dX7_stepWord_92 : decode cX7_stepWord 92 = .ok (.isub, 1) := by decide +kernel
theorem dX7_stepWord_93 : decode cX7_stepWord 93 = .ok (.bipush 8, 2) := by decide +kernel
theorem dX7_stepWord_95 : decode cX7_stepWord 95 = .ok (.if_icmp .le 7, 3) := by decide +kernel
theorem dX7_stepWord_98 : decode cX7_stepWord 98 = .ok (.iconst 4, 1) := by decide +kernel
theorem dX7_stepWord_99 : decode cX7_stepWord 99 = .ok (.goto 4, 3) := by decide +kernel
theorem dX7_stepWord_102 : decode cX7_stepWord 102 = .ok (.iconst 1, 1) := by decide +kernel
theorem dX7_stepWord_103 : decode cX7_stepWord 103 = .ok (.putfield 68, 3) := by decide +kernel
theorem dX7_stepWord_106 : decode cX7_stepWord 106 = .ok (.aload_n 0, 1) := by decide +kernel
theorem dX7_stepWord_107 : decode cX7_stepWord 107 = .ok (.iconst (-1), 1) := by decide +kernel
theorem dX7_stepWord_108 : decode cX7_stepWord 108 = .ok (.putfield 88, 3) := by decide +kernel
theorem dX7_stepWord_111 : decode cX7_stepWord 111 = .ok (.iconst 0, 1) := by decide +kernel
theorem dX7_stepWord_112 : decode cX7_stepWord 112 = .ok (.istore_n 1, 1) := by decide +kernel
theorem dX7_stepWord_113 : decode cX7_stepWord 113 = .ok (.iload_n 1, 1) := by decide +kernel
theorem dX7_stepWord_114 : decode cX7_stepWord 114 = .ok (.aload_n 0, 1) := by decide +kernel
theorem dX7_stepWord_115 : decode cX7_stepWord 115 = .ok (.getfield 25, 3) := by decide +kernel
theorem dX7_stepWord_118 : decode cX7_stepWord 118 = .ok (.arraylength, 1) := by decide +kernel
theorem dX7_stepWord_119 : decode cX7_stepWord 119 = .ok (.if_icmp .ge 28, 3) := by decide +kernel
theorem dX7_stepWord_122 : decode cX7_stepWord 122 = .ok (.aload_n 0, 1) := by decide +kernel
theorem dX7_stepWord_123 : decode cX7_stepWord 123 = .ok (.getfield 25, 3) := by decide +kernel
theorem dX7_stepWord_126 : decode cX7_stepWord 126 = .ok (.iload_n 1, 1) := by decide +kernel
theorem dX7_stepWord_127 : decode cX7_stepWord 127 = .ok (.laload, 1) := by decide +kernel
theorem dX7_stepWord_128 : decode cX7_stepWord 128 = .ok (.aload_n 0, 1) := by decide +kernel
theorem dX7_stepWord_129 : decode cX7_stepWord 129 = .ok (.getfield 209, 3) := by decide +kernel
theorem dX7_stepWord_132 : decode cX7_stepWord 132 = .ok (.lcmp, 1) := by decide +kernel
theorem dX7_stepWord_133 : decode cX7_stepWord 133 = .ok (.ifCond .ne 8, 3) := by decide +kernel
theorem dX7_stepWord_136 : decode cX7_stepWord 136 = .ok (.aload_n 0, 1) := by decide +kernel
theorem dX7_stepWord_137 : decode cX7_stepWord 137 = .ok (.iload_n 1, 1) := by decide +kernel
theorem dX7_stepWord_138 : decode cX7_stepWord 138 = .ok (.putfield 88, 3) := by decide +kernel
theorem dX7_stepWord_141 : decode cX7_stepWord 141 = .ok (.iinc 1 1, 3) := by decide +kernel
theorem dX7_stepWord_144 : decode cX7_stepWord 144 = .ok (.goto (-31), 3) := by decide +kernel
theorem dX7_stepWord_147 : decode cX7_stepWord 147 = .ok (.return_, 1) := by decide +kernel
theorem dX7_stepNumber_0 : decode cX7_stepNumber 0 = .ok (.aload_n 0, 1) := by decide +kernel
theorem dX7_stepNumber_1 : decode cX7_stepNumber 1 = .ok (.iconst 0, 1) := by decide +kernel
theorem dX7_stepNumber_2 : decode cX7_stepNumber 2 = .ok (.putfield 88, 3) := by decide +kernel
theorem dX7_stepNumber_5 : decode cX7_stepNumber 5 = .ok (.aload_n 0, 1) := by decide +kernel
theorem dX7_stepNumber_6 : decode cX7_stepNumber 6 = .ok (.getfield 51, 3) := by decide +kernel
theorem dX7_stepNumber_9 : decode cX7_stepNumber 9 = .ok (.aload_n 0, 1) := by decide +kernel
theorem dX7_stepNumber_10 : decode cX7_stepNumber 10 = .ok (.getfield 49, 3) := by decide +kernel
theorem dX7_stepNumber_13 : decode cX7_stepNumber 13 = .ok (.if_icmp .ge 68, 3) := by decide +kernel
theorem dX7_stepNumber_16 : decode cX7_stepNumber 16 = .ok (.aload_n 0, 1) := by decide +kernel
theorem dX7_stepNumber_17 : decode cX7_stepNumber 17 = .ok (.getfield 17, 3) := by decide +kernel
theorem dX7_stepNumber_20 : decode cX7_stepNumber 20 = .ok (.aload_n 0, 1) := by decide +kernel
theorem dX7_stepNumber_21 : decode cX7_stepNumber 21 = .ok (.getfield 51, 3) := by decide +kernel
theorem dX7_stepNumber_24 : decode cX7_stepNumber 24 = .ok (.baload, 1) := by decide +kernel
theorem dX7_stepNumber_25 : decode cX7_stepNumber 25 = .ok (.bipush 48, 2) := by decide +kernel
theorem dX7_stepNumber_27 : decode cX7_stepNumber 27 = .ok (.if_icmp .lt 54, 3) := by decide +kernel
theorem dX7_stepNumber_30 : decode cX7_stepNumber 30 = .ok (.aload_n 0, 1) := by decide +kernel
theorem dX7_stepNumber_31 : decode cX7_stepNumber 31 = .ok (.getfield 17, 3) := by decide +kernel
theorem dX7_stepNumber_34 : decode cX7_stepNumber 34 = .ok (.aload_n 0, 1) := by decide +kernel
theorem dX7_stepNumber_35 : decode cX7_stepNumber 35 = .ok (.getfield 51, 3) := by decide +kernel
theorem dX7_stepNumber_38 : decode cX7_stepNumber 38 = .ok (.baload, 1) := by decide +kernel
theorem dX7_stepNumber_39 : decode cX7_stepNumber 39 = .ok (.bipush 57, 2) := by decide +kernel
theorem dX7_stepNumber_41 : decode cX7_stepNumber 41 = .ok (.if_icmp .gt 40, 3) := by decide +kernel
theorem dX7_stepNumber_44 : decode cX7_stepNumber 44 = .ok (.aload_n 0, 1) := by decide +kernel
theorem dX7_stepNumber_45 : decode cX7_stepNumber 45 = .ok (.aload_n 0, 1) := by decide +kernel
theorem dX7_stepNumber_46 : decode cX7_stepNumber 46 = .ok (.getfield 88, 3) := by decide +kernel
theorem dX7_stepNumber_49 : decode cX7_stepNumber 49 = .ok (.bipush 10, 2) := by decide +kernel
theorem dX7_stepNumber_51 : decode cX7_stepNumber 51 = .ok (.imul, 1) := by decide +kernel
theorem dX7_stepNumber_52 : decode cX7_stepNumber 52 = .ok (.aload_n 0, 1) := by decide +kernel
theorem dX7_stepNumber_53 : decode cX7_stepNumber 53 = .ok (.getfield 17, 3) := by decide +kernel
theorem dX7_stepNumber_56 : decode cX7_stepNumber 56 = .ok (.aload_n 0, 1) := by decide +kernel
theorem dX7_stepNumber_57 : decode cX7_stepNumber 57 = .ok (.getfield 51, 3) := by decide +kernel
theorem dX7_stepNumber_60 : decode cX7_stepNumber 60 = .ok (.baload, 1) := by decide +kernel
theorem dX7_stepNumber_61 : decode cX7_stepNumber 61 = .ok (.bipush 48, 2) := by decide +kernel
theorem dX7_stepNumber_63 : decode cX7_stepNumber 63 = .ok (.isub, 1) := by decide +kernel
theorem dX7_stepNumber_64 : decode cX7_stepNumber 64 = .ok (.iadd, 1) := by decide +kernel
theorem dX7_stepNumber_65 : decode cX7_stepNumber 65 = .ok (.putfield 88, 3) := by decide +kernel
theorem dX7_stepNumber_68 : decode cX7_stepNumber 68 = .ok (.aload_n 0, 1) := by decide +kernel
theorem dX7_stepNumber_69 : decode cX7_stepNumber 69 = .ok (.dup, 1) := by decide +kernel
theorem dX7_stepNumber_70 : decode cX7_stepNumber 70 = .ok (.getfield 51, 3) := by decide +kernel
theorem dX7_stepNumber_73 : decode cX7_stepNumber 73 = .ok (.iconst 1, 1) := by decide +kernel
theorem dX7_stepNumber_74 : decode cX7_stepNumber 74 = .ok (.iadd, 1) := by decide +kernel
theorem dX7_stepNumber_75 : decode cX7_stepNumber 75 = .ok (.putfield 51, 3) := by decide +kernel
theorem dX7_stepNumber_78 : decode cX7_stepNumber 78 = .ok (.goto (-73), 3) := by decide +kernel
theorem dX7_stepNumber_81 : decode cX7_stepNumber 81 = .ok (.aload_n 0, 1) := by decide +kernel
theorem dX7_stepNumber_82 : decode cX7_stepNumber 82 = .ok (.getfield 51, 3) := by decide +kernel
theorem dX7_stepNumber_85 : decode cX7_stepNumber 85 = .ok (.aload_n 0, 1) := by decide +kernel
theorem dX7_stepNumber_86 : decode cX7_stepNumber 86 = .ok (.getfield 49, 3) := by decide +kernel
theorem dX7_stepNumber_89 : decode cX7_stepNumber 89 = .ok (.if_icmp .ge 35, 3) := by decide +kernel
theorem dX7_stepNumber_92 : decode cX7_stepNumber 92 = .ok (.aload_n 0, 1) := by decide +kernel
theorem dX7_stepNumber_93 : decode cX7_stepNumber 93 = .ok (.getfield 17, 3) := by decide +kernel
theorem dX7_stepNumber_96 : decode cX7_stepNumber 96 = .ok (.aload_n 0, 1) := by decide +kernel
theorem dX7_stepNumber_97 : decode cX7_stepNumber 97 = .ok (.getfield 51, 3) := by decide +kernel
theorem dX7_stepNumber_100 : decode cX7_stepNumber 100 = .ok (.baload, 1) := by decide +kernel
theorem dX7_stepNumber_101 : decode cX7_stepNumber 101 = .ok (.bipush 97, 2) := by decide +kernel
theorem dX7_stepNumber_103 : decode cX7_stepNumber 103 = .ok (.if_icmp .lt 21, 3) := by decide +kernel
theorem dX7_stepNumber_106 : decode cX7_stepNumber 106 = .ok (.aload_n 0, 1) := by decide +kernel
theorem dX7_stepNumber_107 : decode cX7_stepNumber 107 = .ok (.getfield 17, 3) := by decide +kernel
theorem dX7_stepNumber_110 : decode cX7_stepNumber 110 = .ok (.aload_n 0, 1) := by decide +kernel
theorem dX7_stepNumber_111 : decode cX7_stepNumber 111 = .ok (.getfield 51, 3) := by decide +kernel
theorem dX7_stepNumber_114 : decode cX7_stepNumber 114 = .ok (.baload, 1) := by decide +kernel
theorem dX7_stepNumber_115 : decode cX7_stepNumber 115 = .ok (.bipush 122, 2) := by decide +kernel
theorem dX7_stepNumber_117 : decode cX7_stepNumber 117 = .ok (.if_icmp .gt 7, 3) := by decide +kernel
theorem dX7_stepNumber_120 : decode cX7_stepNumber 120 = .ok (.iconst 1, 1) := by decide +kernel
theorem dX7_stepNumber_121 : decode cX7_stepNumber 121 = .ok (.goto 4, 3) := by decide +kernel
theorem dX7_stepNumber_124 : decode cX7_stepNumber 124 = .ok (.iconst 0, 1) := by decide +kernel
theorem dX7_stepNumber_125 : decode cX7_stepNumber 125 = .ok (.istore_n 1, 1) := by decide +kernel
theorem dX7_stepNumber_126 : decode cX7_stepNumber 126 = .ok (.aload_n 0, 1) := by decide +kernel
theorem dX7_stepNumber_127 : decode cX7_stepNumber 127 = .ok (.iload_n 1, 1) := by decide +kernel
theorem dX7_stepNumber_128 : decode cX7_stepNumber 128 = .ok (.ifCond .ne 16, 3) := by decide +kernel
theorem dX7_stepNumber_131 : decode cX7_stepNumber 131 = .ok (.aload_n 0, 1) := by decide +kernel
theorem dX7_stepNumber_132 : decode cX7_stepNumber 132 = .ok (.getfield 51, 3) := by decide +kernel
theorem dX7_stepNumber_135 : decode cX7_stepNumber 135 = .ok (.aload_n 0, 1) := by decide +kernel
theorem dX7_stepNumber_136 : decode cX7_stepNumber 136 = .ok (.getfield 182, 3) := by decide +kernel
theorem dX7_stepNumber_139 : decode cX7_stepNumber 139 = .ok (.isub, 1) := by decide +kernel
theorem dX7_stepNumber_140 : decode cX7_stepNumber 140 = .ok (.iconst 4, 1) := by decide +kernel
theorem dX7_stepNumber_141 : decode cX7_stepNumber 141 = .ok (.if_icmp .le 7, 3) := by decide +kernel
theorem dX7_stepNumber_144 : decode cX7_stepNumber 144 = .ok (.iconst 4, 1) := by decide +kernel
theorem dX7_stepNumber_145 : decode cX7_stepNumber 145 = .ok (.goto 4, 3) := by decide +kernel
theorem dX7_stepNumber_148 : decode cX7_stepNumber 148 = .ok (.iconst 2, 1) := by decide +kernel
theorem dX7_stepNumber_149 : decode cX7_stepNumber 149 = .ok (.putfield 68, 3) := by decide +kernel
theorem dX7_stepNumber_152 : decode cX7_stepNumber 152 = .ok (.return_, 1) := by decide +kernel
