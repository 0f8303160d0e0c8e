theorem dX11_init_0 : decode cX11_init 0 = .ok (.aload_n 0, 1) := by decide +kernel
theorem dX11_init_1 : decode cX11_init 1 = .ok (.invokespecial 1, 3) := by decide +kernel
theorem dX11_init_4 : decode cX11_init 4 = .ok (.aload_n 0, 1) := by decide +kernel
theorem dX11_init_5 : decode cX11_init 5 = .ok (.sipush 1600, 3) := by decide +kernel
theorem dX11_init_8 : decode cX11_init 8 = .ok (.newarray .byte, 2) := by decide +kernel
theorem dX11_init_10 : decode cX11_init 10 = .ok (.putfield 9, 3) := by decide +kernel
theorem dX11_init_13 : decode cX11_init 13 = .ok (.aload_n 0, 1) := by decide +kernel
theorem dX11_init_14 : decode cX11_init 14 = .ok (.new 13, 3) := by decide +kernel
theorem dX11_init_17 : decode cX11_init 17 = .ok (.dup, 1) := by decide +kernel
theorem dX11_init_18 : decode cX11_init 18 = .ok (.aload_n 0, 1) := by decide +kernel
theorem dX11_init_19 : decode cX11_init 19 = .ok (.getfield 9, 3) := by decide +kernel
theorem dX11_init_22 : decode cX11_init 22 = .ok (.invokespecial 15, 3) := by decide +kernel
theorem dX11_init_25 : decode cX11_init 25 = .ok (.putfield 18, 3) := by decide +kernel
theorem dX11_init_28 : decode cX11_init 28 = .ok (.aload_n 0, 1) := by decide +kernel
theorem dX11_init_29 : decode cX11_init 29 = .ok (.new 22, 3) := by decide +kernel
theorem dX11_init_32 : decode cX11_init 32 = .ok (.dup, 1) := by decide +kernel
theorem dX11_init_33 : decode cX11_init 33 = .ok (.invokespecial 24, 3) := by decide +kernel
theorem dX11_init_36 : decode cX11_init 36 = .ok (.putfield 25, 3) := by decide +kernel
theorem dX11_init_39 : decode cX11_init 39 = .ok (.aload_n 0, 1) := by decide +kernel
theorem dX11_init_40 : decode cX11_init 40 = .ok (.new 22, 3) := by decide +kernel
theorem dX11_init_43 : decode cX11_init 43 = .ok (.dup, 1) := by decide +kernel
theorem dX11_init_44 : decode cX11_init 44 = .ok (.invokespecial 24, 3) := by decide +kernel
theorem dX11_init_47 : decode cX11_init 47 = .ok (.putfield 29, 3) := by decide +kernel
theorem dX11_init_50 : decode cX11_init 50 = .ok (.aload_n 0, 1) := by decide +kernel
theorem dX11_init_51 : decode cX11_init 51 = .ok (.new 32, 3) := by decide +kernel
theorem dX11_init_54 : decode cX11_init 54 = .ok (.dup, 1) := by decide +kernel
theorem dX11_init_55 : decode cX11_init 55 = .ok (.invokespecial 34, 3) := by decide +kernel
theorem dX11_init_58 : decode cX11_init 58 = .ok (.putfield 35, 3) := by decide +kernel
theorem dX11_init_61 : decode cX11_init 61 = .ok (.aload_n 0, 1) := by decide +kernel
theorem dX11_init_62 : decode cX11_init 62 = .ok (.new 32, 3) := by decide +kernel
theorem dX11_init_65 : decode cX11_init 65 = .ok (.dup, 1) := by decide +kernel
theorem dX11_init_66 : decode cX11_init 66 = .ok (.invokespecial 34, 3) := by decide +kernel
theorem dX11_init_69 : decode cX11_init 69 = .ok (.putfield 39, 3) := by decide +kernel
theorem dX11_init_72 : decode cX11_init 72 = .ok (.aload_n 0, 1) := by decide +kernel
theorem dX11_init_73 : decode cX11_init 73 = .ok (.new 42, 3) := by decide +kernel
theorem dX11_init_76 : decode cX11_init 76 = .ok (.dup, 1) := by decide +kernel
theorem dX11_init_77 : decode cX11_init 77 = .ok (.invokespecial 44, 3) := by decide +kernel
theorem dX11_init_80 : decode cX11_init 80 = .ok (.putfield 45, 3) := by decide +kernel
theorem dX11_init_83 : decode cX11_init 83 = .ok (.aload_n 0, 1) := by decide +kernel
theorem dX11_init_84 : decode cX11_init 84 = .ok (.new 49, 3) := by decide +kernel
theorem dX11_init_87 : decode cX11_init 87 = .ok (.dup, 1) := by decide +kernel
theorem dX11_init_88 : decode cX11_init 88 = .ok (.invokespecial 51, 3) := by decide +kernel
theorem dX11_init_91 : decode cX11_init 91 = .ok (.putfield 52, 3) := by decide +kernel
theorem dX11_init_94 : decode cX11_init 94 = .ok (.aload_n 0, 1) := by decide +kernel
theorem dX11_init_95 : decode cX11_init 95 = .ok (.new 56, 3) := by decide +kernel
theorem dX11_init_98 : decode cX11_init 98 = .ok (.dup, 1) := by decide +kernel
theorem dX11_init_99 : decode cX11_init 99 = .ok (.invokespecial 58, 3) := by decide +kernel
theorem dX11_init_102 : decode cX11_init 102 = .ok (.putfield 59, 3) := by decide +kernel
theorem dX11_init_105 : decode cX11_init 105 = .ok (.aload_n 0, 1) := by decide +kernel
theorem dX11_init_106 : decode cX11_init 106 = .ok (.new 63, 3) := by decide +kernel
theorem dX11_init_109 : decode cX11_init 109 = .ok (.dup, 1) := by decide +kernel
theorem dX11_init_110 : decode cX11_init 110 = .ok (.invokespecial 65, 3) := by decide +kernel
theorem dX11_init_113 : decode cX11_init 113 = .ok (.putfield 66, 3) := by decide +kernel
theorem dX11_init_116 : decode cX11_init 116 = .ok (.aload_n 0, 1) := by decide +kernel
theorem dX11_init_117 : decode cX11_init 117 = .ok (.new 70, 3) := by decide +kernel
theorem dX11_init_120 : decode cX11_init 120 = .ok (.dup, 1) := by decide +kernel
theorem dX11_init_121 : decode cX11_init 121 = .ok (.invokespecial 72, 3) := by decide +kernel
theorem dX11_init_124 : decode cX11_init 124 = .ok (.putfield 73, 3) := by decide +kernel
theorem dX11_init_127 : decode cX11_init 127 = .ok (.aload_n 0, 1) := by decide +kernel
theorem dX11_init_128 : decode cX11_init 128 = .ok (.new 77, 3) := by decide +kernel
theorem dX11_init_131 : decode cX11_init 131 = .ok (.dup, 1) := by decide +kernel
theorem dX11_init_132 : decode cX11_init 132 = .ok (.invokespecial 79, 3) := by decide +kernel
theorem dX11_init_135 : decode cX11_init 135 = .ok (.putfield 80, 3) := by decide +kernel
theorem dX11_init_138 : decode cX11_init 138 = .ok (.aload_n 0, 1) := by decide +kernel
theorem dX11_init_139 : decode cX11_init 139 = .ok (.iconst 4, 1) := by decide +kernel
theorem dX11_init_140 : decode cX11_init 140 = .ok (.newarray .int, 2) := by decide +kernel
theorem dX11_init_142 : decode cX11_init 142 = .ok (.putfield 84, 3) := by decide +kernel
theorem dX11_init_145 : decode cX11_init 145 = .ok (.aload_n 0, 1) := by decide +kernel
theorem dX11_init_146 : decode cX11_init 146 = .ok (.iconst 3, 1) := by decide +kernel
theorem dX11_init_147 : decode cX11_init 147 = .ok (.newarray .int, 2) := by decide +kernel
theorem dX11_init_149 : decode cX11_init 149 = .ok (.putfield 88, 3) := by decide +kernel
theorem dX11_init_152 : decode cX11_init 152 = .ok (.aload_n 0, 1) := by decide +kernel
theorem dX11_init_153 : decode cX11_init 153 = .ok (.getfield 35, 3) := by decide +kernel
theorem dX11_init_156 : decode cX11_init 156 = .ok (.aload_n 0, 1) := by decide +kernel
theorem dX11_init_157 : decode cX11_init 157 = .ok (.getfield 25, 3) := by decide +kernel
theorem dX11_init_160 : decode cX11_init 160 = .ok (.invokevirtual 91, 3) := by decide +kernel
theorem dX11_init_163 : decode cX11_init 163 = .ok (.aload_n 0, 1) := by decide +kernel
theorem dX11_init_164 : decode cX11_init 164 = .ok (.getfield 45, 3) := by decide +kernel
theorem dX11_init_167 : decode cX11_init 167 = .ok (.aload_n 0, 1) := by decide +kernel
theorem dX11_init_168 : decode cX11_init 168 = .ok (.getfield 35, 3) := by decide +kernel
theorem dX11_init_171 : decode cX11_init 171 = .ok (.invokevirtual 95, 3) := by decide +kernel
theorem dX11_init_174 : decode cX11_init 174 = .ok (.return_, 1) := by decide +kernel
theorem dX11_feed_0 : decode cX11_feed 0 = .ok (.aload_n 0, 1) := by decide +kernel
theorem dX11_feed_1 : decode cX11_feed 1 = .ok (.getfield 99, 3) := by decide +kernel
theorem dX11_feed_4 : decode cX11_feed 4 = .ok (.bipush 20, 2) := by decide +kernel
theorem dX11_feed_6 : decode cX11_feed 6 = .ok (.iadd, 1) := by decide +kernel
theorem dX11_feed_7 : decode cX11_feed 7 = .ok (.sipush 1600, 3) := by decide +kernel
theorem dX11_feed_10 : decode cX11_feed 10 = .ok (.if_icmp .le 5, 3) := by decide +kernel
theorem dX11_feed_13 : decode cX11_feed 13 = .ok (.iconst (-1), 1) := by decide +kernel
theorem dX11_feed_14 : decode cX11_feed 14 = .ok (.ireturn, 1) := by decide +kernel
theorem dX11_feed_15 : decode cX11_feed 15 = .ok (.aload_n 0, 1) := by decide +kernel
theorem dX11_feed_16 : decode cX11_feed 16 = .ok (.iload_n 1, 1) := by decide +kernel
theorem dX11_feed_17 : decode cX11_feed 17 = .ok (.invokevirtual 103, 3) := by decide +kernel
theorem dX11_feed_20 : decode cX11_feed 20 = .ok (.aload_n 0, 1) := by decide +kernel
theorem dX11_feed_21 : decode cX11_feed 21 = .ok (.iload_n 2, 1) := by decide +kernel
theorem dX11_feed_22 : decode cX11_feed 22 = .ok (.invokevirtual 103, 3) := by decide +kernel
theorem dX11_feed_25 : decode cX11_feed 25 = .ok (.aload_n 0, 1) := by decide +kernel
theorem dX11_feed_26 : decode cX11_feed 26 = .ok (.iload_n 3, 1) := by decide +kernel
theorem dX11_feed_27 : decode cX11_feed 27 = .ok (.invokevirtual 103, 3) := by decide +kernel
theorem dX11_feed_30 : decode cX11_feed 30 = .ok (.aload_n 0, 1) := by decide +kernel
theorem dX11_feed_31 : decode cX11_feed 31 = .ok (.iload 4, 2) := by decide +kernel
theorem dX11_feed_33 : decode cX11_feed 33 = .ok (.invokevirtual 103, 3) := by decide +kernel
theorem dX11_feed_36 : decode cX11_feed 36 = .ok (.aload_n 0, 1) := by decide +kernel
theorem dX11_feed_37 : decode cX11_feed 37 = .ok (.iload 5, 2) := by decide +kernel
theorem dX11_feed_39 : decode cX11_feed 39 = .ok (.invokevirtual 103, 3) := by decide +kernel
theorem dX11_feed_42 : decode cX11_feed 42 = .ok (.aload_n 0, 1) := by decide +kernel
theorem dX11_feed_43 : decode cX11_feed 43 = .ok (.getfield 99, 3) := by decide +kernel
theorem dX11_feed_46 : decode cX11_feed 46 = .ok (.ireturn, 1) := by decide +kernel
theorem dX11_putBytes_0 : decode cX11_putBytes 0 = .ok (.bipush 24, 2) := by decide +kernel
theorem dX11_putBytes_2 : decode cX11_putBytes 2 = .ok (.istore_n 2, 1) := by decide +kernel
theorem dX11_putBytes_3 : decode cX11_putBytes 3 = .ok (.iload_n 2, 1) := by decide +kernel
theorem dX11_putBytes_4 : decode cX11_putBytes 4 = .ok (.ifCond .lt 44, 3) := by decide +kernel
theorem dX11_putBytes_7 : decode cX11_putBytes 7 = .ok (.aload_n 0, 1) := by decide +kernel
theorem dX11_putBytes_8 : decode cX11_putBytes 8 = .ok (.getfield 99, 3) := by decide +kernel
theorem dX11_putBytes_11 : decode cX11_putBytes 11 = .ok (.aload_n 0, 1) := by decide +kernel
theorem dX11_putBytes_12 : decode cX11_putBytes 12 = .ok (.getfield 9, 3) := by decide +kernel
theorem dX11_putBytes_15 : decode cX11_putBytes 15 = .ok (.arraylength, 1) := by decide +kernel
theorem dX11_putBytes_16 : decode cX11_putBytes 16 = .ok (.if_icmp .ge 26, 3) := by decide +kernel
theorem dX11_putBytes_19 : decode cX11_putBytes 19 = .ok (.aload_n 0, 1) := by decide +kernel
theorem dX11_putBytes_20 : decode cX11_putBytes 20 = .ok (.getfield 9, 3) := by decide +kernel
theorem dX11_putBytes_23 : decode cX11_putBytes 23 = .ok (.aload_n 0, 1) := by decide +kernel
theorem dX11_putBytes_24 : decode cX11_putBytes 24 = .ok (.getfield 99, 3) := by decide +kernel
theorem dX11_putBytes_27 : decode cX11_putBytes 27 = .ok (.iload_n 1, 1) := by decide +kernel
theorem dX11_putBytes_28 : decode cX11_putBytes 28 = .ok (.iload_n 2, 1) := by decide +kernel
theorem dX11_putBytes_29 : decode cX11_putBytes 29 = .ok (.ishr, 1) := by decide +kernel
theorem dX11_putBytes_30 : decode cX11_putBytes 30 = .ok (.i2b, 1) := by decide +kernel
theorem dX11_putBytes_31 : decode cX11_putBytes 31 = .ok (.bastore, 1) := by decide +kernel
theorem dX11_putBytes_32 : decode cX11_putBytes 32 = .ok (.aload_n 0, 1) := by decide +kernel
theorem dX11_putBytes_33 : decode cX11_putBytes 33 = .ok (.dup, 1) := by decide +kernel
theorem dX11_putBytes_34 : decode cX11_putBytes 34 = .ok (.getfield 99, 3) := by decide +kernel
theorem dX11_putBytes_37 : decode cX11_putBytes 37 = .ok (.iconst 1, 1) := by decide +kernel
theorem dX11_putBytes_38 : decode cX11_putBytes 38 = .ok (.iadd, 1) := by decide +kernel
theorem dX11_putBytes_39 : decode cX11_putBytes 39 = .ok (.putfield 99, 3) := by decide +kernel
theorem dX11_putBytes_42 : decode cX11_putBytes 42 = .ok (.iinc 2 (-8), 3) := by decide +kernel
theorem dX11_putBytes_45 : decode cX11_putBytes 45 = .ok (.goto (-42), 3) := by decide +kernel
theorem dX11_putBytes_48 : decode cX11_putBytes 48 = .ok (.return_, 1) := by decide +kernel
theorem dX11_end_0 : decode cX11_end 0 = .ok (.iload_n 1, 1) := by decide +kernel
theorem dX11_end_1 : decode cX11_end 1 = .ok (.ifCond .lt 11, 3) := by decide +kernel
theorem dX11_end_4 : decode cX11_end 4 = .ok (.iload_n 1, 1) := by decide +kernel
theorem dX11_end_5 : decode cX11_end 5 = .ok (.aload_n 0, 1) := by decide +kernel
theorem dX11_end_6 : decode cX11_end 6 = .ok (.getfield 99, 3) := by decide +kernel
theorem dX11_end_9 : decode cX11_end 9 = .ok (.if_icmp .le 5, 3) := by decide +kernel
theorem dX11_end_12 : decode cX11_end 12 = .ok (.iconst (-1), 1) := by decide +kernel
theorem dX11_end_13 : decode cX11_end 13 = .ok (.ireturn, 1) := by decide +kernel
theorem dX11_end_14 : decode cX11_end 14 = .ok (.aload_n 0, 1) := by decide +kernel
theorem dX11_end_15 : decode cX11_end 15 = .ok (.iload_n 1, 1) := by decide +kernel
theorem dX11_end_16 : decode cX11_end 16 = .ok (.putfield 99, 3) := by decide +kernel
theorem dX11_end_19 : decode cX11_end 19 = .ok (.iload_n 1, 1) := by decide +kernel
theorem dX11_end_20 : decode cX11_end 20 = .ok (.ireturn, 1) := by decide +kernel
theorem dX11_hedge_0 : decode cX11_hedge 0 = .ok (.aload_n 0, 1) := by decide +kernel
theorem dX11_hedge_1 : decode cX11_hedge 1 = .ok (.getfield 18, 3) := by decide +kernel
theorem dX11_hedge_4 : decode cX11_hedge 4 = .ok (.aload_n 0, 1) := by decide +kernel
theorem dX11_hedge_5 : decode cX11_hedge 5 = .ok (.getfield 99, 3) := by decide +kernel
theorem dX11_hedge_8 : decode cX11_hedge 8 = .ok (.aload_n 0, 1) := by decide +kernel
theorem dX11_hedge_9 : decode cX11_hedge 9 = .ok (.getfield 29, 3) := by decide +kernel
theorem dX11_hedge_12 : decode cX11_hedge 12 = .ok (.invokevirtual 107, 3) := by decide +kernel
theorem dX11_hedge_15 : decode cX11_hedge 15 = .ok (.istore_n 1, 1) := by decide +kernel
theorem dX11_hedge_16 : decode cX11_hedge 16 = .ok (.aload_n 0, 1) := by decide +kernel
theorem dX11_hedge_17 : decode cX11_hedge 17 = .ok (.iconst 0, 1) := by decide +kernel
theorem dX11_hedge_18 : decode cX11_hedge 18 = .ok (.putfield 99, 3) := by decide +kernel
theorem dX11_hedge_21 : decode cX11_hedge 21 = .ok (.iload_n 1, 1) := by decide +kernel
theorem dX11_hedge_22 : decode cX11_hedge 22 = .ok (.ifCond .ne 5, 3) := by decide +kernel
theorem dX11_hedge_25 : decode cX11_hedge 25 = .ok (.iconst (-1), 1) := by decide +kernel
theorem dX11_hedge_26 : decode cX11_hedge 26 = .ok (.ireturn, 1) := by decide +kernel
theorem dX11_hedge_27 : decode cX11_hedge 27 = .ok (.aload_n 0, 1) := by decide +kernel
theorem dX11_hedge_28 : decode cX11_hedge 28 = .ok (.getfield 25, 3) := by decide +kernel
theorem dX11_hedge_31 : decode cX11_hedge 31 = .ok (.astore_n 2, 1) := by decide +kernel
theorem dX11_hedge_32 : decode cX11_hedge 32 = .ok (.aload_n 0, 1) := by decide +kernel
theorem dX11_hedge_33 : decode cX11_hedge 33 = .ok (.aload_n 0, 1) := by decide +kernel
theorem dX11_hedge_34 : decode cX11_hedge 34 = .ok (.getfield 29, 3) := by decide +kernel
theorem dX11_hedge_37 : decode cX11_hedge 37 = .ok (.putfield 25, 3) := by decide +kernel
theorem dX11_hedge_40 : decode cX11_hedge 40 = .ok (.aload_n 0, 1) := by decide +kernel
theorem dX11_hedge_41 : decode cX11_hedge 41 = .ok (.aload_n 2, 1) := by decide +kernel
theorem dX11_hedge_42 : decode cX11_hedge 42 = .ok (.putfield 29, 3) := by decide +kernel
theorem dX11_hedge_45 : decode cX11_hedge 45 = .ok (.aload_n 0, 1) := by decide +kernel
theorem dX11_hedge_46 : decode cX11_hedge 46 = .ok (.getfield 35, 3) := by decide +kernel
theorem dX11_hedge_49 : decode cX11_hedge 49 = .ok (.aload_n 0, 1) := by decide +kernel
theorem dX11_hedge_50 : decode cX11_hedge 50 = .ok (.getfield 25, 3) := by decide +kernel
theorem dX11_hedge_53 : decode cX11_hedge 53 = .ok (.invokevirtual 91, 3) := by decide +kernel
theorem dX11_hedge_56 : decode cX11_hedge 56 = .ok (.aload_n 0, 1) := by decide +kernel
theorem dX11_hedge_57 : decode cX11_hedge 57 = .ok (.getfield 45, 3) := by decide +kernel
theorem dX11_hedge_60 : decode cX11_hedge 60 = .ok (.aload_n 0, 1) := by decide +kernel
theorem dX11_hedge_61 : decode cX11_hedge 61 = .ok (.getfield 35, 3) := by decide +kernel
theorem dX11_hedge_64 : decode cX11_hedge 64 = .ok (.invokevirtual 95, 3) := by decide +kernel
theorem dX11_hedge_67 : decode cX11_hedge 67 = .ok (.aload_n 0, 1) := by decide +kernel
theorem dX11_hedge_68 : decode cX11_hedge 68 = .ok (.getfield 52, 3) := by decide +kernel
theorem dX11_hedge_71 : decode cX11_hedge 71 = .ok (.invokevirtual 111, 3) := by decide +kernel
theorem dX11_hedge_74 : decode cX11_hedge 74 = .ok (.aload_n 0, 1) := by decide +kernel
theorem dX11_hedge_75 : decode cX11_hedge 75 = .ok (.getfield 59, 3) := by decide +kernel
theorem dX11_hedge_78 : decode cX11_hedge 78 = .ok (.invokevirtual 114, 3) := by decide +kernel
theorem dX11_hedge_81 : decode cX11_hedge 81 = .ok (.aload_n 0, 1) := by decide +kernel
theorem dX11_hedge_82 : decode cX11_hedge 82 = .ok (.iconst 0, 1) := by decide +kernel
theorem dX11_hedge_83 : decode cX11_hedge 83 = .ok (.putfield 115, 3) := by decide +kernel
theorem dX11_hedge_86 : decode cX11_hedge 86 = .ok (.aload_n 0, 1) := by decide +kernel
theorem dX11_hedge_87 : decode cX11_hedge 87 = .ok (.getfield 35, 3) := by decide +kernel
theorem dX11_hedge_90 : decode cX11_hedge 90 = .ok (.getfield 118, 3) := by decide +kernel
theorem dX11_hedge_93 : decode cX11_hedge 93 = .ok (.ireturn, 1) := by decide +kernel
theorem dX11_fault_0 : decode cX11_fault 0 = .ok (.iload_n 1, 1) := by decide +kernel
theorem dX11_fault_1 : decode cX11_fault 1 = .ok (.lookupswitch 43 #[(0, 27), (1, 35)], 27) := by decide +kernel
theorem dX11_fault_28 : decode cX11_fault 28 = .ok (.aload_n 0, 1) := by decide +kernel
theorem dX11_fault_29 : decode cX11_fault 29 = .ok (.getfield 18, 3) := by decide +kernel
theorem dX11_fault_32 : decode cX11_fault 32 = .ok (.getfield 121, 3) := by decide +kernel
theorem dX11_fault_35 : decode cX11_fault 35 = .ok (.ireturn, 1) := by decide +kernel
theorem dX11_fault_36 : decode cX11_fault 36 = .ok (.aload_n 0, 1) := by decide +kernel
theorem dX11_fault_37 : decode cX11_fault 37 = .ok (.getfield 18, 3) := by decide +kernel
theorem dX11_fault_40 : decode cX11_fault 40 = .ok (.getfield 124, 3) := by decide +kernel
theorem dX11_fault_43 : decode cX11_fault 43 = .ok (.ireturn, 1) := by decide +kernel
theorem dX11_fault_44 : decode cX11_fault 44 = .ok (.iconst (-1), 1) := by decide +kernel
theorem dX11_fault_45 : decode cX11_fault 45 = .ok (.ireturn, 1) := by decide +kernel
theorem dX11_bill_0 : decode cX11_bill 0 = .ok (.aload_n 0, 1) := by decide +kernel
theorem dX11_bill_1 : decode cX11_bill 1 = .ok (.iload_n 1, 1) := by decide +kernel
theorem dX11_bill_2 : decode cX11_bill 2 = .ok (.invokevirtual 127, 3) := by decide +kernel
theorem dX11_bill_5 : decode cX11_bill 5 = .ok (.ifCond .ne 6, 3) := by decide +kernel
theorem dX11_bill_8 : decode cX11_bill 8 = .ok (.bipush (-100), 2) := by decide +kernel
theorem dX11_bill_10 : decode cX11_bill 10 = .ok (.ireturn, 1) := by decide +kernel
theorem dX11_bill_11 : decode cX11_bill 11 = .ok (.aload_n 0, 1) := by decide +kernel
theorem dX11_bill_12 : decode cX11_bill 12 = .ok (.getfield 25, 3) := by decide +kernel
theorem dX11_bill_15 : decode cX11_bill 15 = .ok (.getfield 131, 3) := by decide +kernel
theorem dX11_bill_18 : decode cX11_bill 18 = .ok (.astore_n 3, 1) := by decide +kernel
theorem dX11_bill_19 : decode cX11_bill 19 = .ok (.iload_n 2, 1) := by decide +kernel
theorem dX11_bill_20 : decode cX11_bill 20 = .ok (.tableswitch 143 0 9 #[56, 66, 76, 83, 90, 97, 104, 111, 118, 127], 56) := by decide +kernel
theorem dX11_bill_76 : decode cX11_bill 76 = .ok (.aload_n 0, 1) := by decide +kernel
theorem dX11_bill_77 : decode cX11_bill 77 = .ok (.getfield 35, 3) := by decide +kernel
theorem dX11_bill_80 : decode cX11_bill 80 = .ok (.getfield 135, 3) := by decide +kernel
theorem dX11_bill_83 : decode cX11_bill 83 = .ok (.iload_n 1, 1) := by decide +kernel
theorem dX11_bill_84 : decode cX11_bill 84 = .ok (.iaload, 1) := by decide +kernel
theorem dX11_bill_85 : decode cX11_bill 85 = .ok (.ireturn, 1) := by decide +kernel
theorem dX11_bill_86 : decode cX11_bill 86 = .ok (.aload_n 0, 1) := by decide +kernel
theorem dX11_bill_87 : decode cX11_bill 87 = .ok (.getfield 35, 3) := by decide +kernel
theorem dX11_bill_90 : decode cX11_bill 90 = .ok (.getfield 138, 3) := by decide +kernel
theorem dX11_bill_93 : decode cX11_bill 93 = .ok (.iload_n 1, 1) := by decide +kernel
theorem dX11_bill_94 : decode cX11_bill 94 = .ok (.iaload, 1) := by decide +kernel
theorem dX11_bill_95 : decode cX11_bill 95 = .ok (.ireturn, 1) := by decide +kernel
theorem dX11_bill_96 : decode cX11_bill 96 = .ok (.aload_n 3, 1) := by decide +kernel
theorem dX11_bill_97 : decode cX11_bill 97 = .ok (.getfield 141, 3) := by decide +kernel
theorem dX11_bill_100 : decode cX11_bill 100 = .ok (.iload_n 1, 1) := by decide +kernel
theorem dX11_bill_101 : decode cX11_bill 101 = .ok (.iaload, 1) := by decide +kernel
theorem dX11_bill_102 : decode cX11_bill 102 = .ok (.ireturn, 1) := by decide +kernel
theorem dX11_bill_103 : decode cX11_bill 103 = .ok (.aload_n 3, 1) := by decide +kernel
theorem dX11_bill_104 : decode cX11_bill 104 = .ok (.getfield 146, 3) := by decide +kernel
theorem dX11_bill_107 : decode cX11_bill 107 = .ok (.iload_n 1, 1) := by decide +kernel
theorem dX11_bill_108 : decode cX11_bill 108 = .ok (.iaload, 1) := by decide +kernel
theorem dX11_bill_109 : decode cX11_bill 109 = .ok (.ireturn, 1) := by decide +kernel
theorem dX11_bill_110 : decode cX11_bill 110 = .ok (.aload_n 3, 1) := by decide +kernel
theorem dX11_bill_111 : decode cX11_bill 111 = .ok (.getfield 149, 3) := by decide +kernel
theorem dX11_bill_114 : decode cX11_bill 114 = .ok (.iload_n 1, 1) := by decide +kernel
theorem dX11_bill_115 : decode cX11_bill 115 = .ok (.iaload, 1) := by decide +kernel
theorem dX11_bill_116 : decode cX11_bill 116 = .ok (.ireturn, 1) := by decide +kernel
theorem dX11_bill_117 : decode cX11_bill 117 = .ok (.aload_n 3, 1) := by decide +kernel
theorem dX11_bill_118 : decode cX11_bill 118 = .ok (.getfield 152, 3) := by decide +kernel
theorem dX11_bill_121 : decode cX11_bill 121 = .ok (.iload_n 1, 1) := by decide +kernel
theorem dX11_bill_122 : decode cX11_bill 122 = .ok (.iaload, 1) := by decide +kernel
theorem dX11_bill_123 : decode cX11_bill 123 = .ok (.ireturn, 1) := by decide +kernel
theorem dX11_bill_124 : decode cX11_bill 124 = .ok (.aload_n 3, 1) := by decide +kernel
theorem dX11_bill_125 : decode cX11_bill 125 = .ok (.getfield 155, 3) := by decide +kernel
theorem dX11_bill_128 : decode cX11_bill 128 = .ok (.iload_n 1, 1) := by decide +kernel
theorem dX11_bill_129 : decode cX11_bill 129 = .ok (.iaload, 1) := by decide +kernel
theorem dX11_bill_130 : decode cX11_bill 130 = .ok (.ireturn, 1) := by decide +kernel
theorem dX11_bill_131 : decode cX11_bill 131 = .ok (.aload_n 3, 1) := by decide +kernel
theorem dX11_bill_132 : decode cX11_bill 132 = .ok (.getfield 158, 3) := by decide +kernel
theorem dX11_bill_135 : decode cX11_bill 135 = .ok (.iload_n 1, 1) := by decide +kernel
theorem dX11_bill_136 : decode cX11_bill 136 = .ok (.iaload, 1) := by decide +kernel
theorem dX11_bill_137 : decode cX11_bill 137 = .ok (.ireturn, 1) := by decide +kernel
theorem dX11_bill_138 : decode cX11_bill 138 = .ok (.aload_n 0, 1) := by decide +kernel
theorem dX11_bill_139 : decode cX11_bill 139 = .ok (.invokevirtual 161, 3) := by decide +kernel
theorem dX11_bill_142 : decode cX11_bill 142 = .ok (.iload_n 1, 1) := by decide +kernel
theorem dX11_bill_143 : decode cX11_bill 143 = .ok (.ishr, 1) := by decide +kernel
theorem dX11_bill_144 : decode cX11_bill 144 = .ok (.iconst 1, 1) := by decide +kernel
theorem dX11_bill_145 : decode cX11_bill 145 = .ok (.iand, 1) := by decide +kernel
theorem dX11_bill_146 : decode cX11_bill 146 = .ok (.ireturn, 1) := by decide +kernel
theorem dX11_bill_147 : decode cX11_bill 147 = .ok (.aload_n 3, 1) := by decide +kernel
theorem dX11_bill_148 : decode cX11_bill 148 = .ok (.aload_n 0, 1) := by decide +kernel
theorem dX11_bill_149 : decode cX11_bill 149 = .ok (.getfield 35, 3) := by decide +kernel
theorem dX11_bill_152 : decode cX11_bill 152 = .ok (.invokevirtual 165, 3) := by decide +kernel
theorem dX11_bill_155 : decode cX11_bill 155 = .ok (.invokevirtual 168, 3) := by decide +kernel
theorem dX11_bill_158 : decode cX11_bill 158 = .ok (.iload_n 1, 1) := by decide +kernel
theorem dX11_bill_159 : decode cX11_bill 159 = .ok (.ishr, 1) := by decide +kernel
theorem dX11_bill_160 : decode cX11_bill 160 = .ok (.iconst 1, 1) := by decide +kernel
theorem dX11_bill_161 : decode cX11_bill 161 = .ok (.iand, 1) := by decide +kernel
theorem dX11_bill_162 : decode cX11_bill 162 = .ok (.ireturn, 1) := by decide +kernel
theorem dX11_bill_163 : decode cX11_bill 163 = .ok (.bipush (-100), 2) := by decide +kernel
theorem dX11_bill_165 : decode cX11_bill 165 = .ok (.ireturn, 1) := by decide +kernel
theorem dX11_stake_0 : decode cX11_stake 0 = .ok (.aload_n 0, 1) := by decide +kernel
theorem dX11_stake_1 : decode cX11_stake 1 = .ok (.iload_n 1, 1) := by decide +kernel
theorem dX11_stake_2 : decode cX11_stake 2 = .ok (.invokevirtual 172, 3) := by decide +kernel
theorem dX11_stake_5 : decode cX11_stake 5 = .ok (.ifCond .eq 12, 3) := by decide +kernel
theorem dX11_stake_8 : decode cX11_stake 8 = .ok (.iload_n 2, 1) := by decide +kernel
theorem dX11_stake_9 : decode cX11_stake 9 = .ok (.ifCond .lt 8, 3) := by decide +kernel
theorem dX11_stake_12 : decode cX11_stake 12 = .ok (.iload_n 2, 1) := by decide +kernel
theorem dX11_stake_13 : decode cX11_stake 13 = .ok (.iconst 1, 1) := by decide +kernel
theorem dX11_stake_14 : decode cX11_stake 14 = .ok (.if_icmp .le 5, 3) := by decide +kernel
theorem dX11_stake_17 : decode cX11_stake 17 = .ok (.iconst (-1), 1) := by decide +kernel
theorem dX11_stake_18 : decode cX11_stake 18 = .ok (.ireturn, 1) := by decide +kernel
theorem dX11_stake_19 : decode cX11_stake 19 = .ok (.aload_n 0, 1) := by decide +kernel
theorem dX11_stake_20 : decode cX11_stake 20 = .ok (.getfield 25, 3) := by decide +kernel
theorem dX11_stake_23 : decode cX11_stake 23 = .ok (.getfield 131, 3) := by decide +kernel
theorem dX11_stake_26 : decode cX11_stake 26 = .ok (.iload_n 1, 1) := by decide +kernel
theorem dX11_stake_27 : decode cX11_stake 27 = .ok (.iload_n 2, 1) := by decide +kernel
theorem dX11_stake_28 : decode cX11_stake 28 = .ok (.ifCond .ne 13, 3) := by decide +kernel
theorem dX11_stake_31 : decode cX11_stake 31 = .ok (.aload_n 0, 1) := by decide +kernel
theorem dX11_stake_32 : decode cX11_stake 32 = .ok (.getfield 35, 3) := by decide +kernel
theorem dX11_stake_35 : decode cX11_stake 35 = .ok (.invokevirtual 165, 3) := by decide +kernel
theorem dX11_stake_38 : decode cX11_stake 38 = .ok (.goto 7, 3) := by decide +kernel
theorem dX11_stake_41 : decode cX11_stake 41 = .ok (.aload_n 0, 1) := by decide +kernel
theorem dX11_stake_42 : decode cX11_stake 42 = .ok (.invokevirtual 161, 3) := by decide +kernel
theorem dX11_stake_45 : decode cX11_stake 45 = .ok (.invokevirtual 175, 3) := by decide +kernel
theorem dX11_stake_48 : decode cX11_stake 48 = .ok (.ireturn, 1) := by decide +kernel
theorem dX11_law_0 : decode cX11_law 0 = .ok (.aload_n 0, 1) := by decide +kernel
theorem dX11_law_1 : decode cX11_law 1 = .ok (.iload_n 1, 1) := by decide +kernel
theorem dX11_law_2 : decode cX11_law 2 = .ok (.invokevirtual 179, 3) := by decide +kernel
theorem dX11_law_5 : decode cX11_law 5 = .ok (.ifCond .eq 21, 3) := by decide +kernel
theorem dX11_law_8 : decode cX11_law 8 = .ok (.aload_n 0, 1) := by decide +kernel
theorem dX11_law_9 : decode cX11_law 9 = .ok (.getfield 25, 3) := by decide +kernel
theorem dX11_law_12 : decode cX11_law 12 = .ok (.getfield 131, 3) := by decide +kernel
theorem dX11_law_15 : decode cX11_law 15 = .ok (.iload_n 1, 1) := by decide +kernel
theorem dX11_law_16 : decode cX11_law 16 = .ok (.aload_n 0, 1) := by decide +kernel
theorem dX11_law_17 : decode cX11_law 17 = .ok (.invokevirtual 161, 3) := by decide +kernel
theorem dX11_law_20 : decode cX11_law 20 = .ok (.invokevirtual 182, 3) := by decide +kernel
theorem dX11_law_23 : decode cX11_law 23 = .ok (.goto 6, 3) := by decide +kernel
theorem dX11_law_26 : decode cX11_law 26 = .ok (.sipush (-1000), 3) := by decide +kernel
theorem dX11_law_29 : decode cX11_law 29 = .ok (.ireturn, 1) := by decide +kernel
theorem dX11_stands_0 : decode cX11_stands 0 = .ok (.aload_n 0, 1) := by decide +kernel
theorem dX11_stands_1 : decode cX11_stands 1 = .ok (.invokevirtual 161, 3) := by decide +kernel
theorem dX11_stands_4 : decode cX11_stands 4 = .ok (.ireturn, 1) := by decide +kernel
theorem dX11_falls_0 : decode cX11_falls 0 = .ok (.aload_n 0, 1) := by decide +kernel
theorem dX11_falls_1 : decode cX11_falls 1 = .ok (.iload_n 1, 1) := by decide +kernel
theorem dX11_falls_2 : decode cX11_falls 2 = .ok (.invokevirtual 127, 3) := by decide +kernel
theorem dX11_falls_5 : decode cX11_falls 5 = .ok (.ifCond .ne 5, 3) := by decide +kernel
theorem dX11_falls_8 : decode cX11_falls 8 = .ok (.iconst (-1), 1) := by decide +kernel
theorem dX11_falls_9 : decode cX11_falls 9 = .ok (.ireturn, 1) := by decide +kernel
theorem dX11_falls_10 : decode cX11_falls 10 = .ok (.aload_n 0, 1) := by decide +kernel
theorem dX11_falls_11 : decode cX11_falls 11 = .ok (.getfield 25, 3) := by decide +kernel
theorem dX11_falls_14 : decode cX11_falls 14 = .ok (.getfield 131, 3) := by decide +kernel
theorem dX11_falls_17 : decode cX11_falls 17 = .ok (.aload_n 0, 1) := by decide +kernel
theorem dX11_falls_18 : decode cX11_falls 18 = .ok (.getfield 35, 3) := by decide +kernel
theorem dX11_falls_21 : decode cX11_falls 21 = .ok (.invokevirtual 165, 3) := by decide +kernel
theorem dX11_falls_24 : decode cX11_falls 24 = .ok (.iconst 1, 1) := by decide +kernel
theorem dX11_falls_25 : decode cX11_falls 25 = .ok (.iload_n 1, 1) := by decide +kernel
theorem dX11_falls_26 : decode cX11_falls 26 = .ok (.ishl, 1) := by decide +kernel
theorem dX11_falls_27 : decode cX11_falls 27 = .ok (.iconst (-1), 1) := by decide +kernel
theorem dX11_falls_28 : decode cX11_falls 28 = .ok (.ixor, 1) := by decide +kernel
theorem dX11_falls_29 : decode cX11_falls 29 = .ok (.iand, 1) := by decide +kernel
theorem dX11_falls_30 : decode cX11_falls 30 = .ok (.invokevirtual 185, 3) := by decide +kernel
theorem dX11_falls_33 : decode cX11_falls 33 = .ok (.istore_n 2, 1) := by decide +kernel
theorem dX11_falls_34 : decode cX11_falls 34 = .ok (.aload_n 0, 1) := by decide +kernel
theorem dX11_falls_35 : decode cX11_falls 35 = .ok (.invokevirtual 161, 3) := by decide +kernel
theorem dX11_falls_38 : decode cX11_falls 38 = .ok (.iload_n 2, 1) := by decide +kernel
theorem dX11_falls_39 : decode cX11_falls 39 = .ok (.iconst (-1), 1) := by decide +kernel
theorem dX11_falls_40 : decode cX11_falls 40 = .ok (.ixor, 1) := by decide +kernel
theorem dX11_falls_41 : decode cX11_falls 41 = .ok (.iand, 1) := by decide +kernel
theorem dX11_falls_42 : decode cX11_falls 42 = .ok (.ireturn, 1) := by decide +kernel
theorem dX11_lay_0 : decode cX11_lay 0 = .ok (.aload_n 0, 1) := by decide +kernel
theorem dX11_lay_1 : decode cX11_lay 1 = .ok (.iload_n 3, 1) := by decide +kernel
theorem dX11_lay_2 : decode cX11_lay 2 = .ok (.invokevirtual 179, 3) := by decide +kernel
theorem dX11_lay_5 : decode cX11_lay 5 = .ok (.ifCond .eq 26, 3) := by decide +kernel
theorem dX11_lay_8 : decode cX11_lay 8 = .ok (.iload 4, 2) := by decide +kernel
theorem dX11_lay_10 : decode cX11_lay 10 = .ok (.invokestatic 188, 3) := by decide +kernel
theorem dX11_lay_13 : decode cX11_lay 13 = .ok (.ifCond .eq 18, 3) := by decide +kernel
theorem dX11_lay_16 : decode cX11_lay 16 = .ok (.iload 5, 2) := by decide +kernel
theorem dX11_lay_18 : decode cX11_lay 18 = .ok (.iconst (-1), 1) := by decide +kernel
theorem dX11_lay_19 : decode cX11_lay 19 = .ok (.if_icmp .eq 14, 3) := by decide +kernel
theorem dX11_lay_22 : decode cX11_lay 22 = .ok (.aload_n 0, 1) := by decide +kernel
theorem dX11_lay_23 : decode cX11_lay 23 = .ok (.iload 5, 2) := by decide +kernel
theorem dX11_lay_25 : decode cX11_lay 25 = .ok (.invokevirtual 127, 3) := by decide +kernel
theorem dX11_lay_28 : decode cX11_lay 28 = .ok (.ifCond .ne 5, 3) := by decide +kernel
theorem dX11_lay_31 : decode cX11_lay 31 = .ok (.iconst (-1), 1) := by decide +kernel
theorem dX11_lay_32 : decode cX11_lay 32 = .ok (.ireturn, 1) := by decide +kernel
theorem dX11_lay_33 : decode cX11_lay 33 = .ok (.aload_n 0, 1) := by decide +kernel
theorem dX11_lay_34 : decode cX11_lay 34 = .ok (.iload_n 1, 1) := by decide +kernel
theorem dX11_lay_35 : decode cX11_lay 35 = .ok (.iload_n 2, 1) := by decide +kernel
theorem dX11_lay_36 : decode cX11_lay 36 = .ok (.iload_n 3, 1) := by decide +kernel
theorem dX11_lay_37 : decode cX11_lay 37 = .ok (.iload 4, 2) := by decide +kernel
theorem dX11_lay_39 : decode cX11_lay 39 = .ok (.iload 5, 2) := by decide +kernel
theorem dX11_lay_41 : decode cX11_lay 41 = .ok (.iconst (-1), 1) := by decide +kernel
theorem dX11_lay_42 : decode cX11_lay 42 = .ok (.invokevirtual 191, 3) := by decide +kernel
theorem dX11_lay_45 : decode cX11_lay 45 = .ok (.ireturn, 1) := by decide +kernel
theorem dX11_repeal_0 : decode cX11_repeal 0 = .ok (.aload_n 0, 1) := by decide +kernel
theorem dX11_repeal_1 : decode cX11_repeal 1 = .ok (.iload_n 3, 1) := by decide +kernel
theorem dX11_repeal_2 : decode cX11_repeal 2 = .ok (.invokevirtual 127, 3) := by decide +kernel
theorem dX11_repeal_5 : decode cX11_repeal 5 = .ok (.ifCond .eq 16, 3) := by decide +kernel
theorem dX11_repeal_8 : decode cX11_repeal 8 = .ok (.aload_n 0, 1) := by decide +kernel
theorem dX11_repeal_9 : decode cX11_repeal 9 = .ok (.iload_n 1, 1) := by decide +kernel
theorem dX11_repeal_10 : decode cX11_repeal 10 = .ok (.iload_n 2, 1) := by decide +kernel
theorem dX11_repeal_11 : decode cX11_repeal 11 = .ok (.iconst (-1), 1) := by decide +kernel
theorem dX11_repeal_12 : decode cX11_repeal 12 = .ok (.iconst 0, 1) := by decide +kernel
theorem dX11_repeal_13 : decode cX11_repeal 13 = .ok (.iconst (-1), 1) := by decide +kernel
theorem dX11_repeal_14 : decode cX11_repeal 14 = .ok (.iload_n 3, 1) := by decide +kernel
theorem dX11_repeal_15 : decode cX11_repeal 15 = .ok (.invokevirtual 191, 3) := by decide +kernel
theorem dX11_repeal_18 : decode cX11_repeal 18 = .ok (.goto 4, 3) := by decide +kernel
theorem dX11_repeal_21 : decode cX11_repeal 21 = .ok (.iconst (-1), 1) := by decide +kernel
theorem dX11_repeal_22 : decode cX11_repeal 22 = .ok (.ireturn, 1) := by decide +kernel
theorem dX11_layBill_0 : decode cX11_layBill 0 = .ok (.aload_n 0, 1) := by decide +kernel
theorem dX11_layBill_1 : decode cX11_layBill 1 = .ok (.getfield 35, 3) := by decide +kernel
theorem dX11_layBill_4 : decode cX11_layBill 4 = .ok (.getfield 118, 3) := by decide +kernel
theorem dX11_layBill_7 : decode cX11_layBill 7 = .ok (.istore 7, 2) := by decide +kernel
theorem dX11_layBill_9 : decode cX11_layBill 9 = .ok (.iload 7, 2) := by decide +kernel
theorem dX11_layBill_11 : decode cX11_layBill 11 = .ok (.bipush 12, 2) := by decide +kernel
theorem dX11_layBill_13 : decode cX11_layBill 13 = .ok (.if_icmp .ge 19, 3) := by decide +kernel
theorem dX11_layBill_16 : decode cX11_layBill 16 = .ok (.aload_n 0, 1) := by decide +kernel
theorem dX11_layBill_17 : decode cX11_layBill 17 = .ok (.iload_n 1, 1) := by decide +kernel
theorem dX11_layBill_18 : decode cX11_layBill 18 = .ok (.invokevirtual 172, 3) := by decide +kernel
theorem dX11_layBill_21 : decode cX11_layBill 21 = .ok (.ifCond .eq 11, 3) := by decide +kernel
theorem dX11_layBill_24 : decode cX11_layBill 24 = .ok (.aload_n 0, 1) := by decide +kernel
theorem dX11_layBill_25 : decode cX11_layBill 25 = .ok (.iload_n 2, 1) := by decide +kernel
theorem dX11_layBill_26 : decode cX11_layBill 26 = .ok (.invokevirtual 195, 3) := by decide +kernel
theorem dX11_layBill_29 : decode cX11_layBill 29 = .ok (.ifCond .ne 5, 3) := by decide +kernel
theorem dX11_layBill_32 : decode cX11_layBill 32 = .ok (.iconst (-1), 1) := by decide +kernel
theorem dX11_layBill_33 : decode cX11_layBill 33 = .ok (.ireturn, 1) := by decide +kernel
theorem dX11_layBill_34 : decode cX11_layBill 34 = .ok (.aload_n 0, 1) := by decide +kernel
theorem dX11_layBill_35 : decode cX11_layBill 35 = .ok (.getfield 25, 3) := by decide +kernel
theorem dX11_layBill_38 : decode cX11_layBill 38 = .ok (.getfield 131, 3) := by decide +kernel
theorem dX11_layBill_41 : decode cX11_layBill 41 = .ok (.iload 7, 2) := by decide +kernel
theorem dX11_layBill_43 : decode cX11_layBill 43 = .ok (.iload_n 1, 1) := by decide +kernel
theorem dX11_layBill_44 : decode cX11_layBill 44 = .ok (.iload_n 2, 1) := by decide +kernel
theorem dX11_layBill_45 : decode cX11_layBill 45 = .ok (.iload_n 3, 1) := by decide +kernel
theorem dX11_layBill_46 : decode cX11_layBill 46 = .ok (.iload 4, 2) := by decide +kernel
theorem dX11_layBill_48 : decode cX11_layBill 48 = .ok (.iload 5, 2) := by decide +kernel
theorem dX11_layBill_50 : decode cX11_layBill 50 = .ok (.iload 6, 2) := by decide +kernel
theorem dX11_layBill_52 : decode cX11_layBill 52 = .ok (.invokevirtual 198, 3) := by decide +kernel
theorem dX11_layBill_55 : decode cX11_layBill 55 = .ok (.aload_n 0, 1) := by decide +kernel
theorem dX11_layBill_56 : decode cX11_layBill 56 = .ok (.getfield 25, 3) := by decide +kernel
theorem dX11_layBill_59 : decode cX11_layBill 59 = .ok (.getfield 131, 3) := by decide +kernel
theorem dX11_layBill_62 : decode cX11_layBill 62 = .ok (.invokevirtual 202, 3) := by decide +kernel
theorem dX11_layBill_65 : decode cX11_layBill 65 = .ok (.aload_n 0, 1) := by decide +kernel
theorem dX11_layBill_66 : decode cX11_layBill 66 = .ok (.getfield 35, 3) := by decide +kernel
theorem dX11_layBill_69 : decode cX11_layBill 69 = .ok (.aload_n 0, 1) := by decide +kernel
theorem dX11_layBill_70 : decode cX11_layBill 70 = .ok (.getfield 25, 3) := by decide +kernel
theorem dX11_layBill_73 : decode cX11_layBill 73 = .ok (.getfield 205, 3) := by decide +kernel
theorem dX11_layBill_76 : decode cX11_layBill 76 = .ok (.iload_n 2, 1) := by decide +kernel
theorem dX11_layBill_77 : decode cX11_layBill 77 = .ok (.iaload, 1) := by decide +kernel
theorem dX11_layBill_78 : decode cX11_layBill 78 = .ok (.invokevirtual 208, 3) := by decide +kernel
theorem dX11_layBill_81 : decode cX11_layBill 81 = .ok (.aload_n 0, 1) := by decide +kernel
theorem dX11_layBill_82 : decode cX11_layBill 82 = .ok (.getfield 45, 3) := by decide +kernel
theorem dX11_layBill_85 : decode cX11_layBill 85 = .ok (.aload_n 0, 1) := by decide +kernel
theorem dX11_layBill_86 : decode cX11_layBill 86 = .ok (.getfield 35, 3) := by decide +kernel
theorem dX11_layBill_89 : decode cX11_layBill 89 = .ok (.invokevirtual 211, 3) := by decide +kernel
theorem dX11_layBill_92 : decode cX11_layBill 92 = .ok (.iload 7, 2) := by decide +kernel
theorem dX11_layBill_94 : decode cX11_layBill 94 = .ok (.ireturn, 1) := by decide +kernel
theorem dX11_pull_0 : decode cX11_pull 0 = .ok (.aload_n 0, 1) := by decide +kernel
theorem dX11_pull_1 : decode cX11_pull 1 = .ok (.iload_n 1, 1) := by decide +kernel
theorem dX11_pull_2 : decode cX11_pull 2 = .ok (.invokevirtual 127, 3) := by decide +kernel
theorem dX11_pull_5 : decode cX11_pull 5 = .ok (.ifCond .eq 15, 3) := by decide +kernel
theorem dX11_pull_8 : decode cX11_pull 8 = .ok (.aload_n 0, 1) := by decide +kernel
theorem dX11_pull_9 : decode cX11_pull 9 = .ok (.getfield 35, 3) := by decide +kernel
theorem dX11_pull_12 : decode cX11_pull 12 = .ok (.getfield 135, 3) := by decide +kernel
theorem dX11_pull_15 : decode cX11_pull 15 = .ok (.iload_n 1, 1) := by decide +kernel
theorem dX11_pull_16 : decode cX11_pull 16 = .ok (.iaload, 1) := by decide +kernel
theorem dX11_pull_17 : decode cX11_pull 17 = .ok (.ifCond .gt 5, 3) := by decide +kernel
theorem dX11_pull_20 : decode cX11_pull 20 = .ok (.iconst (-1), 1) := by decide +kernel
theorem dX11_pull_21 : decode cX11_pull 21 = .ok (.ireturn, 1) := by decide +kernel
theorem dX11_pull_22 : decode cX11_pull 22 = .ok (.aload_n 0, 1) := by decide +kernel
theorem dX11_pull_23 : decode cX11_pull 23 = .ok (.getfield 35, 3) := by decide +kernel
theorem dX11_pull_26 : decode cX11_pull 26 = .ok (.getfield 135, 3) := by decide +kernel
theorem dX11_pull_29 : decode cX11_pull 29 = .ok (.iload_n 1, 1) := by decide +kernel
theorem dX11_pull_30 : decode cX11_pull 30 = .ok (.iaload, 1) := by decide +kernel
theorem dX11_pull_31 : decode cX11_pull 31 = .ok (.istore_n 2, 1) := by decide +kernel
theorem dX11_pull_32 : decode cX11_pull 32 = .ok (.aload_n 0, 1) := by decide +kernel
theorem dX11_pull_33 : decode cX11_pull 33 = .ok (.getfield 35, 3) := by decide +kernel
theorem dX11_pull_36 : decode cX11_pull 36 = .ok (.getfield 135, 3) := by decide +kernel
theorem dX11_pull_39 : decode cX11_pull 39 = .ok (.iload_n 1, 1) := by decide +kernel
theorem dX11_pull_40 : decode cX11_pull 40 = .ok (.iconst 0, 1) := by decide +kernel
theorem dX11_pull_41 : decode cX11_pull 41 = .ok (.iastore, 1) := by decide +kernel
theorem dX11_pull_42 : decode cX11_pull 42 = .ok (.aload_n 0, 1) := by decide +kernel
theorem dX11_pull_43 : decode cX11_pull 43 = .ok (.getfield 45, 3) := by decide +kernel
theorem dX11_pull_46 : decode cX11_pull 46 = .ok (.aload_n 0, 1) := by decide +kernel
theorem dX11_pull_47 : decode cX11_pull 47 = .ok (.getfield 35, 3) := by decide +kernel
theorem dX11_pull_50 : decode cX11_pull 50 = .ok (.invokevirtual 211, 3) := by decide +kernel
theorem dX11_pull_53 : decode cX11_pull 53 = .ok (.iload_n 2, 1) := by decide +kernel
theorem dX11_pull_54 : decode cX11_pull 54 = .ok (.ireturn, 1) := by decide +kernel
theorem dX11_trim_0 : decode cX11_trim 0 = .ok (.aload_n 0, 1) := by decide +kernel
theorem dX11_trim_1 : decode cX11_trim 1 = .ok (.iload_n 1, 1) := by decide +kernel
theorem dX11_trim_2 : decode cX11_trim 2 = .ok (.invokevirtual 172, 3) := by decide +kernel
theorem dX11_trim_5 : decode cX11_trim 5 = .ok (.ifCond .eq 14, 3) := by decide +kernel
theorem dX11_trim_8 : decode cX11_trim 8 = .ok (.iload_n 2, 1) := by decide +kernel
theorem dX11_trim_9 : decode cX11_trim 9 = .ok (.iconst 1, 1) := by decide +kernel
theorem dX11_trim_10 : decode cX11_trim 10 = .ok (.if_icmp .lt 9, 3) := by decide +kernel
theorem dX11_trim_13 : decode cX11_trim 13 = .ok (.iload_n 2, 1) := by decide +kernel
theorem dX11_trim_14 : decode cX11_trim 14 = .ok (.bipush 99, 2) := by decide +kernel
theorem dX11_trim_16 : decode cX11_trim 16 = .ok (.if_icmp .le 5, 3) := by decide +kernel
theorem dX11_trim_19 : decode cX11_trim 19 = .ok (.iconst (-1), 1) := by decide +kernel
theorem dX11_trim_20 : decode cX11_trim 20 = .ok (.ireturn, 1) := by decide +kernel
theorem dX11_trim_21 : decode cX11_trim 21 = .ok (.aload_n 0, 1) := by decide +kernel
theorem dX11_trim_22 : decode cX11_trim 22 = .ok (.getfield 35, 3) := by decide +kernel
theorem dX11_trim_25 : decode cX11_trim 25 = .ok (.invokevirtual 165, 3) := by decide +kernel
theorem dX11_trim_28 : decode cX11_trim 28 = .ok (.istore_n 3, 1) := by decide +kernel
theorem dX11_trim_29 : decode cX11_trim 29 = .ok (.aload_n 0, 1) := by decide +kernel
theorem dX11_trim_30 : decode cX11_trim 30 = .ok (.getfield 25, 3) := by decide +kernel
theorem dX11_trim_33 : decode cX11_trim 33 = .ok (.getfield 131, 3) := by decide +kernel
theorem dX11_trim_36 : decode cX11_trim 36 = .ok (.iload_n 1, 1) := by decide +kernel
theorem dX11_trim_37 : decode cX11_trim 37 = .ok (.iload_n 3, 1) := by decide +kernel
theorem dX11_trim_38 : decode cX11_trim 38 = .ok (.invokevirtual 175, 3) := by decide +kernel
theorem dX11_trim_41 : decode cX11_trim 41 = .ok (.ifCond .ne 5, 3) := by decide +kernel
theorem dX11_trim_44 : decode cX11_trim 44 = .ok (.iconst (-1), 1) := by decide +kernel
theorem dX11_trim_45 : decode cX11_trim 45 = .ok (.ireturn, 1) := by decide +kernel
theorem dX11_trim_46 : decode cX11_trim 46 = .ok (.aload_n 0, 1) := by decide +kernel
theorem dX11_trim_47 : decode cX11_trim 47 = .ok (.getfield 35, 3) := by decide +kernel
theorem dX11_trim_50 : decode cX11_trim 50 = .ok (.aload_n 0, 1) := by decide +kernel
theorem dX11_trim_51 : decode cX11_trim 51 = .ok (.getfield 25, 3) := by decide +kernel
theorem dX11_trim_54 : decode cX11_trim 54 = .ok (.getfield 131, 3) := by decide +kernel
theorem dX11_trim_57 : decode cX11_trim 57 = .ok (.iload_n 1, 1) := by decide +kernel
theorem dX11_trim_58 : decode cX11_trim 58 = .ok (.iload_n 2, 1) := by decide +kernel
theorem dX11_trim_59 : decode cX11_trim 59 = .ok (.invokevirtual 214, 3) := by decide +kernel
theorem dX11_trim_62 : decode cX11_trim 62 = .ok (.aload_n 0, 1) := by decide +kernel
theorem dX11_trim_63 : decode cX11_trim 63 = .ok (.getfield 45, 3) := by decide +kernel
theorem dX11_trim_66 : decode cX11_trim 66 = .ok (.aload_n 0, 1) := by decide +kernel
theorem dX11_trim_67 : decode cX11_trim 67 = .ok (.getfield 35, 3) := by decide +kernel
theorem dX11_trim_70 : decode cX11_trim 70 = .ok (.invokevirtual 211, 3) := by decide +kernel
theorem dX11_trim_73 : decode cX11_trim 73 = .ok (.iload_n 3, 1) := by decide +kernel
theorem dX11_trim_74 : decode cX11_trim 74 = .ok (.aload_n 0, 1) := by decide +kernel
theorem dX11_trim_75 : decode cX11_trim 75 = .ok (.getfield 35, 3) := by decide +kernel
theorem dX11_trim_78 : decode cX11_trim 78 = .ok (.invokevirtual 165, 3) := by decide +kernel
theorem dX11_trim_81 : decode cX11_trim 81 = .ok (.iconst (-1), 1) := by decide +kernel
theorem dX11_trim_82 : decode cX11_trim 82 = .ok (.ixor, 1) := by decide +kernel
theorem dX11_trim_83 : decode cX11_trim 83 = .ok (.iand, 1) := by decide +kernel
theorem dX11_trim_84 : decode cX11_trim 84 = .ok (.invokestatic 218, 3) := by decide +kernel
theorem dX11_trim_87 : decode cX11_trim 87 = .ok (.ireturn, 1) := by decide +kernel
theorem dX11_year_0 : decode cX11_year 0 = .ok (.aload_n 0, 1) := by decide +kernel
theorem dX11_year_1 : decode cX11_year 1 = .ok (.getfield 35, 3) := by decide +kernel
theorem dX11_year_4 : decode cX11_year 4 = .ok (.getfield 223, 3) := by decide +kernel
theorem dX11_year_7 : decode cX11_year 7 = .ok (.sipush 999, 3) := by decide +kernel
theorem dX11_year_10 : decode cX11_year 10 = .ok (.if_icmp .lt 5, 3) := by decide +kernel
theorem dX11_year_13 : decode cX11_year 13 = .ok (.iconst (-1), 1) := by decide +kernel
theorem dX11_year_14 : decode cX11_year 14 = .ok (.ireturn, 1) := by decide +kernel
theorem dX11_year_15 : decode cX11_year 15 = .ok (.aload_n 0, 1) := by decide +kernel
theorem dX11_year_16 : decode cX11_year 16 = .ok (.getfield 35, 3) := by decide +kernel
theorem dX11_year_19 : decode cX11_year 19 = .ok (.invokevirtual 165, 3) := by decide +kernel
theorem dX11_year_22 : decode cX11_year 22 = .ok (.istore_n 1, 1) := by decide +kernel
theorem dX11_year_23 : decode cX11_year 23 = .ok (.aload_n 0, 1) := by decide +kernel
theorem dX11_year_24 : decode cX11_year 24 = .ok (.getfield 35, 3) := by decide +kernel
theorem dX11_year_27 : decode cX11_year 27 = .ok (.aload_n 0, 1) := by decide +kernel
theorem dX11_year_28 : decode cX11_year 28 = .ok (.getfield 25, 3) := by decide +kernel
theorem dX11_year_31 : decode cX11_year 31 = .ok (.invokevirtual 226, 3) := by decide +kernel
theorem dX11_year_34 : decode cX11_year 34 = .ok (.aload_n 0, 1) := by decide +kernel
theorem dX11_year_35 : decode cX11_year 35 = .ok (.getfield 45, 3) := by decide +kernel
theorem dX11_year_38 : decode cX11_year 38 = .ok (.aload_n 0, 1) := by decide +kernel
theorem dX11_year_39 : decode cX11_year 39 = .ok (.getfield 35, 3) := by decide +kernel
theorem dX11_year_42 : decode cX11_year 42 = .ok (.invokevirtual 211, 3) := by decide +kernel
theorem dX11_year_45 : decode cX11_year 45 = .ok (.iload_n 1, 1) := by decide +kernel
theorem dX11_year_46 : decode cX11_year 46 = .ok (.aload_n 0, 1) := by decide +kernel
theorem dX11_year_47 : decode cX11_year 47 = .ok (.getfield 35, 3) := by decide +kernel
theorem dX11_year_50 : decode cX11_year 50 = .ok (.invokevirtual 165, 3) := by decide +kernel
theorem dX11_year_53 : decode cX11_year 53 = .ok (.iconst (-1), 1) := by decide +kernel
theorem dX11_year_54 : decode cX11_year 54 = .ok (.ixor, 1) := by decide +kernel
theorem dX11_year_55 : decode cX11_year 55 = .ok (.iand, 1) := by decide +kernel
theorem dX11_year_56 : decode cX11_year 56 = .ok (.invokestatic 218, 3) := by decide +kernel
theorem dX11_year_59 : decode cX11_year 59 = .ok (.ireturn, 1) := by decide +kernel
theorem dX11_undo_0 : decode cX11_undo 0 = .ok (.aload_n 0, 1) := by decide +kernel
theorem dX11_undo_1 : decode cX11_undo 1 = .ok (.getfield 45, 3) := by decide +kernel
theorem dX11_undo_4 : decode cX11_undo 4 = .ok (.aload_n 0, 1) := by decide +kernel
theorem dX11_undo_5 : decode cX11_undo 5 = .ok (.getfield 35, 3) := by decide +kernel
theorem dX11_undo_8 : decode cX11_undo 8 = .ok (.invokevirtual 229, 3) := by decide +kernel
theorem dX11_undo_11 : decode cX11_undo 11 = .ok (.ireturn, 1) := by decide +kernel
theorem dX11_redo_0 : decode cX11_redo 0 = .ok (.aload_n 0, 1) := by decide +kernel
theorem dX11_redo_1 : decode cX11_redo 1 = .ok (.getfield 45, 3) := by decide +kernel
theorem dX11_redo_4 : decode cX11_redo 4 = .ok (.aload_n 0, 1) := by decide +kernel
theorem dX11_redo_5 : decode cX11_redo 5 = .ok (.getfield 35, 3) := by decide +kernel
theorem dX11_redo_8 : decode cX11_redo 8 = .ok (.invokevirtual 233, 3) := by decide +kernel
theorem dX11_redo_11 : decode cX11_redo 11 = .ok (.ireturn, 1) := by decide +kernel
theorem dX11_will_0 : decode cX11_will 0 = .ok (.aload_n 0, 1) := by decide +kernel
theorem dX11_will_1 : decode cX11_will 1 = .ok (.iload_n 1, 1) := by decide +kernel
theorem dX11_will_2 : decode cX11_will 2 = .ok (.invokevirtual 179, 3) := by decide +kernel
theorem dX11_will_5 : decode cX11_will 5 = .ok (.ifCond .eq 11, 3) := by decide +kernel
theorem dX11_will_8 : decode cX11_will 8 = .ok (.aload_n 0, 1) := by decide +kernel
theorem dX11_will_9 : decode cX11_will 9 = .ok (.iload_n 2, 1) := by decide +kernel
theorem dX11_will_10 : decode cX11_will 10 = .ok (.invokevirtual 236, 3) := by decide +kernel
theorem dX11_will_13 : decode cX11_will 13 = .ok (.ifCond .ne 7, 3) := by decide +kernel
theorem dX11_will_16 : decode cX11_will 16 = .ok (.sipush (-1000), 3) := by decide +kernel
theorem dX11_will_19 : decode cX11_will 19 = .ok (.ireturn, 1) := by decide +kernel
theorem dX11_will_20 : decode cX11_will 20 = .ok (.aload_n 0, 1) := by decide +kernel
theorem dX11_will_21 : decode cX11_will 21 = .ok (.iload_n 2, 1) := by decide +kernel
theorem dX11_will_22 : decode cX11_will 22 = .ok (.invokevirtual 239, 3) := by decide +kernel
theorem dX11_will_25 : decode cX11_will 25 = .ok (.aload_n 0, 1) := by decide +kernel
theorem dX11_will_26 : decode cX11_will 26 = .ok (.getfield 25, 3) := by decide +kernel
theorem dX11_will_29 : decode cX11_will 29 = .ok (.getfield 131, 3) := by decide +kernel
theorem dX11_will_32 : decode cX11_will 32 = .ok (.iload_n 1, 1) := by decide +kernel
theorem dX11_will_33 : decode cX11_will 33 = .ok (.aload_n 0, 1) := by decide +kernel
theorem dX11_will_34 : decode cX11_will 34 = .ok (.getfield 25, 3) := by decide +kernel
theorem dX11_will_37 : decode cX11_will 37 = .ok (.getfield 131, 3) := by decide +kernel
theorem dX11_will_40 : decode cX11_will 40 = .ok (.aload_n 0, 1) := by decide +kernel
theorem dX11_will_41 : decode cX11_will 41 = .ok (.getfield 39, 3) := by decide +kernel
theorem dX11_will_44 : decode cX11_will 44 = .ok (.invokevirtual 165, 3) := by decide +kernel
theorem dX11_will_47 : decode cX11_will 47 = .ok (.invokevirtual 185, 3) := by decide +kernel
theorem dX11_will_50 : decode cX11_will 50 = .ok (.invokevirtual 182, 3) := by decide +kernel
theorem dX11_will_53 : decode cX11_will 53 = .ok (.ireturn, 1) := by decide +kernel
theorem dX11_lapse_0 : decode cX11_lapse 0 = .ok (.aload_n 0, 1) := by decide +kernel
theorem dX11_lapse_1 : decode cX11_lapse 1 = .ok (.iload_n 1, 1) := by decide +kernel
theorem dX11_lapse_2 : decode cX11_lapse 2 = .ok (.invokevirtual 179, 3) := by decide +kernel
theorem dX11_lapse_5 : decode cX11_lapse 5 = .ok (.ifCond .ne 5, 3) := by decide +kernel
theorem dX11_lapse_8 : decode cX11_lapse 8 = .ok (.iconst (-1), 1) := by decide +kernel
theorem dX11_lapse_9 : decode cX11_lapse 9 = .ok (.ireturn, 1) := by decide +kernel
theorem dX11_lapse_10 : decode cX11_lapse 10 = .ok (.aload_n 0, 1) := by decide +kernel
theorem dX11_lapse_11 : decode cX11_lapse 11 = .ok (.getfield 25, 3) := by decide +kernel
theorem dX11_lapse_14 : decode cX11_lapse 14 = .ok (.getfield 131, 3) := by decide +kernel
theorem dX11_lapse_17 : decode cX11_lapse 17 = .ok (.astore_n 2, 1) := by decide +kernel
theorem dX11_lapse_18 : decode cX11_lapse 18 = .ok (.aload_n 2, 1) := by decide +kernel
theorem dX11_lapse_19 : decode cX11_lapse 19 = .ok (.iload_n 1, 1) := by decide +kernel
theorem dX11_lapse_20 : decode cX11_lapse 20 = .ok (.aload_n 0, 1) := by decide +kernel
theorem dX11_lapse_21 : decode cX11_lapse 21 = .ok (.invokevirtual 161, 3) := by decide +kernel
theorem dX11_lapse_24 : decode cX11_lapse 24 = .ok (.invokevirtual 182, 3) := by decide +kernel
theorem dX11_lapse_27 : decode cX11_lapse 27 = .ok (.istore_n 3, 1) := by decide +kernel
theorem dX11_lapse_28 : decode cX11_lapse 28 = .ok (.aload_n 0, 1) := by decide +kernel
theorem dX11_lapse_29 : decode cX11_lapse 29 = .ok (.getfield 39, 3) := by decide +kernel
theorem dX11_lapse_32 : decode cX11_lapse 32 = .ok (.aload_n 0, 1) := by decide +kernel
theorem dX11_lapse_33 : decode cX11_lapse 33 = .ok (.getfield 35, 3) := by decide +kernel
theorem dX11_lapse_36 : decode cX11_lapse 36 = .ok (.invokevirtual 242, 3) := by decide +kernel
theorem dX11_lapse_39 : decode cX11_lapse 39 = .ok (.iconst 1, 1) := by decide +kernel
theorem dX11_lapse_40 : decode cX11_lapse 40 = .ok (.istore 4, 2) := by decide +kernel
theorem dX11_lapse_42 : decode cX11_lapse 42 = .ok (.iload 4, 2) := by decide +kernel
theorem dX11_lapse_44 : decode cX11_lapse 44 = .ok (.bipush 60, 2) := by decide +kernel
theorem dX11_lapse_46 : decode cX11_lapse 46 = .ok (.if_icmp .gt 43, 3) := by decide +kernel
theorem dX11_lapse_49 : decode cX11_lapse 49 = .ok (.aload_n 0, 1) := by decide +kernel
theorem dX11_lapse_50 : decode cX11_lapse 50 = .ok (.getfield 39, 3) := by decide +kernel
theorem dX11_lapse_53 : decode cX11_lapse 53 = .ok (.aload_n 0, 1) := by decide +kernel
theorem dX11_lapse_54 : decode cX11_lapse 54 = .ok (.getfield 25, 3) := by decide +kernel
theorem dX11_lapse_57 : decode cX11_lapse 57 = .ok (.invokevirtual 226, 3) := by decide +kernel
theorem dX11_lapse_60 : decode cX11_lapse 60 = .ok (.aload_n 2, 1) := by decide +kernel
theorem dX11_lapse_61 : decode cX11_lapse 61 = .ok (.iload_n 1, 1) := by decide +kernel
theorem dX11_lapse_62 : decode cX11_lapse 62 = .ok (.aload_n 2, 1) := by decide +kernel
theorem dX11_lapse_63 : decode cX11_lapse 63 = .ok (.aload_n 0, 1) := by decide +kernel
theorem dX11_lapse_64 : decode cX11_lapse 64 = .ok (.getfield 39, 3) := by decide +kernel
theorem dX11_lapse_67 : decode cX11_lapse 67 = .ok (.invokevirtual 165, 3) := by decide +kernel
theorem dX11_lapse_70 : decode cX11_lapse 70 = .ok (.invokevirtual 185, 3) := by decide +kernel
theorem dX11_lapse_73 : decode cX11_lapse 73 = .ok (.invokevirtual 182, 3) := by decide +kernel
theorem dX11_lapse_76 : decode cX11_lapse 76 = .ok (.iload_n 3, 1) := by decide +kernel
theorem dX11_lapse_77 : decode cX11_lapse 77 = .ok (.if_icmp .eq 6, 3) := by decide +kernel
theorem dX11_lapse_80 : decode cX11_lapse 80 = .ok (.iload 4, 2) := by decide +kernel
theorem dX11_lapse_82 : decode cX11_lapse 82 = .ok (.ireturn, 1) := by decide +kernel
theorem dX11_lapse_83 : decode cX11_lapse 83 = .ok (.iinc 4 1, 3) := by decide +kernel
theorem dX11_lapse_86 : decode cX11_lapse 86 = .ok (.goto (-44), 3) := by decide +kernel
theorem dX11_lapse_89 : decode cX11_lapse 89 = .ok (.iconst (-1), 1) := by decide +kernel
theorem dX11_lapse_90 : decode cX11_lapse 90 = .ok (.ireturn, 1) := by decide +kernel
theorem dX11_dies_0 : decode cX11_dies 0 = .ok (.aload_n 0, 1) := by decide +kernel
theorem dX11_dies_1 : decode cX11_dies 1 = .ok (.iload_n 1, 1) := by decide +kernel
theorem dX11_dies_2 : decode cX11_dies 2 = .ok (.invokevirtual 127, 3) := by decide +kernel
theorem dX11_dies_5 : decode cX11_dies 5 = .ok (.ifCond .ne 5, 3) := by decide +kernel
theorem dX11_dies_8 : decode cX11_dies 8 = .ok (.iconst (-1), 1) := by decide +kernel
theorem dX11_dies_9 : decode cX11_dies 9 = .ok (.ireturn, 1) := by decide +kernel
theorem dX11_dies_10 : decode cX11_dies 10 = .ok (.aload_n 0, 1) := by decide +kernel
theorem dX11_dies_11 : decode cX11_dies 11 = .ok (.getfield 39, 3) := by decide +kernel
theorem dX11_dies_14 : decode cX11_dies 14 = .ok (.aload_n 0, 1) := by decide +kernel
theorem dX11_dies_15 : decode cX11_dies 15 = .ok (.getfield 35, 3) := by decide +kernel
theorem dX11_dies_18 : decode cX11_dies 18 = .ok (.invokevirtual 242, 3) := by decide +kernel
theorem dX11_dies_21 : decode cX11_dies 21 = .ok (.iconst 0, 1) := by decide +kernel
theorem dX11_dies_22 : decode cX11_dies 22 = .ok (.istore_n 2, 1) := by decide +kernel
theorem dX11_dies_23 : decode cX11_dies 23 = .ok (.iload_n 2, 1) := by decide +kernel
theorem dX11_dies_24 : decode cX11_dies 24 = .ok (.bipush 60, 2) := by decide +kernel
theorem dX11_dies_26 : decode cX11_dies 26 = .ok (.if_icmp .gt 34, 3) := by decide +kernel
theorem dX11_dies_29 : decode cX11_dies 29 = .ok (.aload_n 0, 1) := by decide +kernel
theorem dX11_dies_30 : decode cX11_dies 30 = .ok (.getfield 39, 3) := by decide +kernel
theorem dX11_dies_33 : decode cX11_dies 33 = .ok (.getfield 135, 3) := by decide +kernel
theorem dX11_dies_36 : decode cX11_dies 36 = .ok (.iload_n 1, 1) := by decide +kernel
theorem dX11_dies_37 : decode cX11_dies 37 = .ok (.iaload, 1) := by decide +kernel
theorem dX11_dies_38 : decode cX11_dies 38 = .ok (.ifCond .gt 5, 3) := by decide +kernel
theorem dX11_dies_41 : decode cX11_dies 41 = .ok (.iload_n 2, 1) := by decide +kernel
theorem dX11_dies_42 : decode cX11_dies 42 = .ok (.ireturn, 1) := by decide +kernel
theorem dX11_dies_43 : decode cX11_dies 43 = .ok (.aload_n 0, 1) := by decide +kernel
theorem dX11_dies_44 : decode cX11_dies 44 = .ok (.getfield 39, 3) := by decide +kernel
theorem dX11_dies_47 : decode cX11_dies 47 = .ok (.aload_n 0, 1) := by decide +kernel
theorem dX11_dies_48 : decode cX11_dies 48 = .ok (.getfield 25, 3) := by decide +kernel
theorem dX11_dies_51 : decode cX11_dies 51 = .ok (.invokevirtual 226, 3) := by decide +kernel
theorem dX11_dies_54 : decode cX11_dies 54 = .ok (.iinc 2 1, 3) := by decide +kernel
theorem dX11_dies_57 : decode cX11_dies 57 = .ok (.goto (-34), 3) := by decide +kernel
theorem dX11_dies_60 : decode cX11_dies 60 = .ok (.iconst (-1), 1) := by decide +kernel
theorem dX11_dies_61 : decode cX11_dies 61 = .ok (.ireturn, 1) := by decide +kernel
theorem dX11_living_0 : decode cX11_living 0 = .ok (.aload_n 0, 1) := by decide +kernel
theorem dX11_living_1 : decode cX11_living 1 = .ok (.iload_n 1, 1) := by decide +kernel
theorem dX11_living_2 : decode cX11_living 2 = .ok (.invokevirtual 236, 3) := by decide +kernel
theorem dX11_living_5 : decode cX11_living 5 = .ok (.ifCond .ne 5, 3) := by decide +kernel
theorem dX11_living_8 : decode cX11_living 8 = .ok (.iconst (-1), 1) := by decide +kernel
theorem dX11_living_9 : decode cX11_living 9 = .ok (.ireturn, 1) := by decide +kernel
theorem dX11_living_10 : decode cX11_living 10 = .ok (.aload_n 0, 1) := by decide +kernel
theorem dX11_living_11 : decode cX11_living 11 = .ok (.iload_n 1, 1) := by decide +kernel
theorem dX11_living_12 : decode cX11_living 12 = .ok (.invokevirtual 239, 3) := by decide +kernel
theorem dX11_living_15 : decode cX11_living 15 = .ok (.aload_n 0, 1) := by decide +kernel
theorem dX11_living_16 : decode cX11_living 16 = .ok (.getfield 39, 3) := by decide +kernel
theorem dX11_living_19 : decode cX11_living 19 = .ok (.invokevirtual 165, 3) := by decide +kernel
theorem dX11_living_22 : decode cX11_living 22 = .ok (.ireturn, 1) := by decide +kernel
theorem dX11_lookAhead_0 : decode cX11_lookAhead 0 = .ok (.aload_n 0, 1) := by decide +kernel
theorem dX11_lookAhead_1 : decode cX11_lookAhead 1 = .ok (.getfield 39, 3) := by decide +kernel
theorem dX11_lookAhead_4 : decode cX11_lookAhead 4 = .ok (.aload_n 0, 1) := by decide +kernel
theorem dX11_lookAhead_5 : decode cX11_lookAhead 5 = .ok (.getfield 35, 3) := by decide +kernel
theorem dX11_lookAhead_8 : decode cX11_lookAhead 8 = .ok (.invokevirtual 242, 3) := by decide +kernel
theorem dX11_lookAhead_11 : decode cX11_lookAhead 11 = .ok (.iconst 0, 1) := by decide +kernel
theorem dX11_lookAhead_12 : decode cX11_lookAhead 12 = .ok (.istore_n 2, 1) := by decide +kernel
theorem dX11_lookAhead_13 : decode cX11_lookAhead 13 = .ok (.iload_n 2, 1) := by decide +kernel
theorem dX11_lookAhead_14 : decode cX11_lookAhead 14 = .ok (.iload_n 1, 1) := by decide +kernel
theorem dX11_lookAhead_15 : decode cX11_lookAhead 15 = .ok (.if_icmp .ge 26, 3) := by decide +kernel
theorem dX11_lookAhead_18 : decode cX11_lookAhead 18 = .ok (.iload_n 2, 1) := by decide +kernel
theorem dX11_lookAhead_19 : decode cX11_lookAhead 19 = .ok (.bipush 60, 2) := by decide +kernel
theorem dX11_lookAhead_21 : decode cX11_lookAhead 21 = .ok (.if_icmp .ge 20, 3) := by decide +kernel
theorem dX11_lookAhead_24 : decode cX11_lookAhead 24 = .ok (.aload_n 0, 1) := by decide +kernel
theorem dX11_lookAhead_25 : decode cX11_lookAhead 25 = .ok (.getfield 39, 3) := by decide +kernel
theorem dX11_lookAhead_28 : decode cX11_lookAhead 28 = .ok (.aload_n 0, 1) := by decide +kernel
theorem dX11_lookAhead_29 : decode cX11_lookAhead 29 = .ok (.getfield 25, 3) := by decide +kernel
theorem dX11_lookAhead_32 : decode cX11_lookAhead 32 = .ok (.invokevirtual 226, 3) := by decide +kernel
theorem dX11_lookAhead_35 : decode cX11_lookAhead 35 = .ok (.iinc 2 1, 3) := by decide +kernel
theorem dX11_lookAhead_38 : decode cX11_lookAhead 38 = .ok (.goto (-25), 3) := by decide +kernel
theorem dX11_lookAhead_41 : decode cX11_lookAhead 41 = .ok (.return_, 1) := by decide +kernel
theorem dX11_clashes_0 : decode cX11_clashes 0 = .ok (.aload_n 0, 1) := by decide +kernel
theorem dX11_clashes_1 : decode cX11_clashes 1 = .ok (.getfield 25, 3) := by decide +kernel
theorem dX11_clashes_4 : decode cX11_clashes 4 = .ok (.getfield 131, 3) := by decide +kernel
theorem dX11_clashes_7 : decode cX11_clashes 7 = .ok (.aload_n 0, 1) := by decide +kernel
theorem dX11_clashes_8 : decode cX11_clashes 8 = .ok (.invokevirtual 161, 3) := by decide +kernel
theorem dX11_clashes_11 : decode cX11_clashes 11 = .ok (.invokevirtual 245, 3) := by decide +kernel
theorem dX11_clashes_14 : decode cX11_clashes 14 = .ok (.ireturn, 1) := by decide +kernel
theorem dX11_weed_0 : decode cX11_weed 0 = .ok (.iload_n 1, 1) := by decide +kernel
theorem dX11_weed_1 : decode cX11_weed 1 = .ok (.ifCond .lt 8, 3) := by decide +kernel
theorem dX11_weed_4 : decode cX11_weed 4 = .ok (.iload_n 1, 1) := by decide +kernel
theorem dX11_weed_5 : decode cX11_weed 5 = .ok (.iconst 1, 1) := by decide +kernel
theorem dX11_weed_6 : decode cX11_weed 6 = .ok (.if_icmp .le 5, 3) := by decide +kernel
theorem dX11_weed_9 : decode cX11_weed 9 = .ok (.iconst (-1), 1) := by decide +kernel
theorem dX11_weed_10 : decode cX11_weed 10 = .ok (.ireturn, 1) := by decide +kernel
theorem dX11_weed_11 : decode cX11_weed 11 = .ok (.aload_n 0, 1) := by decide +kernel
theorem dX11_weed_12 : decode cX11_weed 12 = .ok (.invokevirtual 248, 3) := by decide +kernel
theorem dX11_weed_15 : decode cX11_weed 15 = .ok (.istore_n 2, 1) := by decide +kernel
theorem dX11_weed_16 : decode cX11_weed 16 = .ok (.iload_n 1, 1) := by decide +kernel
theorem dX11_weed_17 : decode cX11_weed 17 = .ok (.ifCond .ne 10, 3) := by decide +kernel
theorem dX11_weed_20 : decode cX11_weed 20 = .ok (.iload_n 2, 1) := by decide +kernel
theorem dX11_weed_21 : decode cX11_weed 21 = .ok (.invokestatic 218, 3) := by decide +kernel
theorem dX11_weed_24 : decode cX11_weed 24 = .ok (.goto 4, 3) := by decide +kernel
theorem dX11_weed_27 : decode cX11_weed 27 = .ok (.iload_n 2, 1) := by decide +kernel
theorem dX11_weed_28 : decode cX11_weed 28 = .ok (.ireturn, 1) := by decide +kernel
theorem dX11_fewestWeeds_0 : decode cX11_fewestWeeds 0 = .ok (.aload_n 0, 1) := by decide +kernel
theorem dX11_fewestWeeds_1 : decode cX11_fewestWeeds 1 = .ok (.getfield 35, 3) := by decide +kernel
theorem dX11_fewestWeeds_4 : decode cX11_fewestWeeds 4 = .ok (.invokevirtual 165, 3) := by decide +kernel
theorem dX11_fewestWeeds_7 : decode cX11_fewestWeeds 7 = .ok (.istore_n 1, 1) := by decide +kernel
theorem dX11_fewestWeeds_8 : decode cX11_fewestWeeds 8 = .ok (.iconst 0, 1) := by decide +kernel
theorem dX11_fewestWeeds_9 : decode cX11_fewestWeeds 9 = .ok (.istore_n 2, 1) := by decide +kernel
theorem dX11_fewestWeeds_10 : decode cX11_fewestWeeds 10 = .ok (.iload_n 2, 1) := by decide +kernel
theorem dX11_fewestWeeds_11 : decode cX11_fewestWeeds 11 = .ok (.bipush 12, 2) := by decide +kernel
theorem dX11_fewestWeeds_13 : decode cX11_fewestWeeds 13 = .ok (.if_icmp .gt 52, 3) := by decide +kernel
theorem dX11_fewestWeeds_16 : decode cX11_fewestWeeds 16 = .ok (.iconst 0, 1) := by decide +kernel
theorem dX11_fewestWeeds_17 : decode cX11_fewestWeeds 17 = .ok (.istore_n 3, 1) := by decide +kernel
theorem dX11_fewestWeeds_18 : decode cX11_fewestWeeds 18 = .ok (.iload_n 3, 1) := by decide +kernel
theorem dX11_fewestWeeds_19 : decode cX11_fewestWeeds 19 = .ok (.iload_n 1, 1) := by decide +kernel
theorem dX11_fewestWeeds_20 : decode cX11_fewestWeeds 20 = .ok (.if_icmp .gt 39, 3) := by decide +kernel
theorem dX11_fewestWeeds_23 : decode cX11_fewestWeeds 23 = .ok (.iload_n 3, 1) := by decide +kernel
theorem dX11_fewestWeeds_24 : decode cX11_fewestWeeds 24 = .ok (.iload_n 1, 1) := by decide +kernel
theorem dX11_fewestWeeds_25 : decode cX11_fewestWeeds 25 = .ok (.iconst (-1), 1) := by decide +kernel
theorem dX11_fewestWeeds_26 : decode cX11_fewestWeeds 26 = .ok (.ixor, 1) := by decide +kernel
theorem dX11_fewestWeeds_27 : decode cX11_fewestWeeds 27 = .ok (.iand, 1) := by decide +kernel
theorem dX11_fewestWeeds_28 : decode cX11_fewestWeeds 28 = .ok (.ifCond .ne 25, 3) := by decide +kernel
theorem dX11_fewestWeeds_31 : decode cX11_fewestWeeds 31 = .ok (.iload_n 3, 1) := by decide +kernel
theorem dX11_fewestWeeds_32 : decode cX11_fewestWeeds 32 = .ok (.invokestatic 218, 3) := by decide +kernel
theorem dX11_fewestWeeds_35 : decode cX11_fewestWeeds 35 = .ok (.iload_n 2, 1) := by decide +kernel
theorem dX11_fewestWeeds_36 : decode cX11_fewestWeeds 36 = .ok (.if_icmp .ne 17, 3) := by decide +kernel
theorem dX11_fewestWeeds_39 : decode cX11_fewestWeeds 39 = .ok (.aload_n 0, 1) := by decide +kernel
theorem dX11_fewestWeeds_40 : decode cX11_fewestWeeds 40 = .ok (.iload_n 1, 1) := by decide +kernel
theorem dX11_fewestWeeds_41 : decode cX11_fewestWeeds 41 = .ok (.iload_n 3, 1) := by decide +kernel
theorem dX11_fewestWeeds_42 : decode cX11_fewestWeeds 42 = .ok (.iconst (-1), 1) := by decide +kernel
theorem dX11_fewestWeeds_43 : decode cX11_fewestWeeds 43 = .ok (.ixor, 1) := by decide +kernel
theorem dX11_fewestWeeds_44 : decode cX11_fewestWeeds 44 = .ok (.iand, 1) := by decide +kernel
theorem dX11_fewestWeeds_45 : decode cX11_fewestWeeds 45 = .ok (.invokevirtual 251, 3) := by decide +kernel
theorem dX11_fewestWeeds_48 : decode cX11_fewestWeeds 48 = .ok (.ifCond .eq 5, 3) := by decide +kernel
theorem dX11_fewestWeeds_51 : decode cX11_fewestWeeds 51 = .ok (.iload_n 3, 1) := by decide +kernel
theorem dX11_fewestWeeds_52 : decode cX11_fewestWeeds 52 = .ok (.ireturn, 1) := by decide +kernel
theorem dX11_fewestWeeds_53 : decode cX11_fewestWeeds 53 = .ok (.iinc 3 1, 3) := by decide +kernel
theorem dX11_fewestWeeds_56 : decode cX11_fewestWeeds 56 = .ok (.goto (-38), 3) := by decide +kernel
theorem dX11_fewestWeeds_59 : decode cX11_fewestWeeds 59 = .ok (.iinc 2 1, 3) := by decide +kernel
theorem dX11_fewestWeeds_62 : decode cX11_fewestWeeds 62 = .ok (.goto (-52), 3) := by decide +kernel
theorem dX11_fewestWeeds_65 : decode cX11_fewestWeeds 65 = .ok (.iload_n 1, 1) := by decide +kernel
theorem dX11_fewestWeeds_66 : decode cX11_fewestWeeds 66 = .ok (.ireturn, 1) := by decide +kernel
theorem dX11_isClear_0 : decode cX11_isClear 0 = .ok (.aload_n 0, 1) := by decide +kernel
theorem dX11_isClear_1 : decode cX11_isClear 1 = .ok (.getfield 25, 3) := by decide +kernel
theorem dX11_isClear_4 : decode cX11_isClear 4 = .ok (.getfield 131, 3) := by decide +kernel
theorem dX11_isClear_7 : decode cX11_isClear 7 = .ok (.aload_n 0, 1) := by decide +kernel
theorem dX11_isClear_8 : decode cX11_isClear 8 = .ok (.getfield 25, 3) := by decide +kernel
theorem dX11_isClear_11 : decode cX11_isClear 11 = .ok (.getfield 131, 3) := by decide +kernel
theorem dX11_isClear_14 : decode cX11_isClear 14 = .ok (.iload_n 1, 1) := by decide +kernel
theorem dX11_isClear_15 : decode cX11_isClear 15 = .ok (.invokevirtual 185, 3) := by decide +kernel
theorem dX11_isClear_18 : decode cX11_isClear 18 = .ok (.invokevirtual 245, 3) := by decide +kernel
theorem dX11_isClear_21 : decode cX11_isClear 21 = .ok (.ifCond .ne 7, 3) := by decide +kernel
theorem dX11_isClear_24 : decode cX11_isClear 24 = .ok (.iconst 1, 1) := by decide +kernel
theorem dX11_isClear_25 : decode cX11_isClear 25 = .ok (.goto 4, 3) := by decide +kernel
theorem dX11_isClear_28 : decode cX11_isClear 28 = .ok (.iconst 0, 1) := by decide +kernel
theorem dX11_isClear_29 : decode cX11_isClear 29 = .ok (.ireturn, 1) := by decide +kernel
theorem dX11_places_0 : decode cX11_places 0 = .ok (.aload_n 0, 1) := by decide +kernel
theorem dX11_places_1 : decode cX11_places 1 = .ok (.getfield 35, 3) := by decide +kernel
theorem dX11_places_4 : decode cX11_places 4 = .ok (.getfield 118, 3) := by decide +kernel
theorem dX11_places_7 : decode cX11_places 7 = .ok (.bipush 12, 2) := by decide +kernel
theorem dX11_places_9 : decode cX11_places 9 = .ok (.if_icmp .ge 26, 3) := by decide +kernel
theorem dX11_places_12 : decode cX11_places 12 = .ok (.aload_n 0, 1) := by decide +kernel
theorem dX11_places_13 : decode cX11_places 13 = .ok (.iload_n 1, 1) := by decide +kernel
theorem dX11_places_14 : decode cX11_places 14 = .ok (.invokevirtual 195, 3) := by decide +kernel
theorem dX11_places_17 : decode cX11_places 17 = .ok (.ifCond .eq 18, 3) := by decide +kernel
theorem dX11_places_20 : decode cX11_places 20 = .ok (.aload_n 0, 1) := by decide +kernel
theorem dX11_places_21 : decode cX11_places 21 = .ok (.iload_n 2, 1) := by decide +kernel
theorem dX11_places_22 : decode cX11_places 22 = .ok (.invokevirtual 179, 3) := by decide +kernel
theorem dX11_places_25 : decode cX11_places 25 = .ok (.ifCond .eq 10, 3) := by decide +kernel
theorem dX11_places_28 : decode cX11_places 28 = .ok (.iload_n 3, 1) := by decide +kernel
theorem dX11_places_29 : decode cX11_places 29 = .ok (.invokestatic 188, 3) := by decide +kernel
theorem dX11_places_32 : decode cX11_places 32 = .ok (.ifCond .ne 5, 3) := by decide +kernel
theorem dX11_places_35 : decode cX11_places 35 = .ok (.iconst (-1), 1) := by decide +kernel
theorem dX11_places_36 : decode cX11_places 36 = .ok (.ireturn, 1) := by decide +kernel
theorem dX11_places_37 : decode cX11_places 37 = .ok (.aload_n 0, 1) := by decide +kernel
theorem dX11_places_38 : decode cX11_places 38 = .ok (.invokevirtual 161, 3) := by decide +kernel
theorem dX11_places_41 : decode cX11_places 41 = .ok (.istore 4, 2) := by decide +kernel
theorem dX11_places_43 : decode cX11_places 43 = .ok (.iconst 0, 1) := by decide +kernel
theorem dX11_places_44 : decode cX11_places 44 = .ok (.istore 5, 2) := by decide +kernel
theorem dX11_places_46 : decode cX11_places 46 = .ok (.iconst 0, 1) := by decide +kernel
theorem dX11_places_47 : decode cX11_places 47 = .ok (.istore 6, 2) := by decide +kernel
theorem dX11_places_49 : decode cX11_places 49 = .ok (.iload 6, 2) := by decide +kernel
theorem dX11_places_51 : decode cX11_places 51 = .ok (.aload_n 0, 1) := by decide +kernel
theorem dX11_places_52 : decode cX11_places 52 = .ok (.getfield 25, 3) := by decide +kernel
theorem dX11_places_55 : decode cX11_places 55 = .ok (.getfield 254, 3) := by decide +kernel
theorem dX11_places_58 : decode cX11_places 58 = .ok (.if_icmp .ge 38, 3) := by decide +kernel
theorem dX11_places_61 : decode cX11_places 61 = .ok (.aload_n 0, 1) := by decide +kernel
theorem dX11_places_62 : decode cX11_places 62 = .ok (.getfield 25, 3) := by decide +kernel
theorem dX11_places_65 : decode cX11_places 65 = .ok (.getfield 131, 3) := by decide +kernel
theorem dX11_places_68 : decode cX11_places 68 = .ok (.iload_n 2, 1) := by decide +kernel
theorem dX11_places_69 : decode cX11_places 69 = .ok (.iload 4, 2) := by decide +kernel
theorem dX11_places_71 : decode cX11_places 71 = .ok (.iload 6, 2) := by decide +kernel
theorem dX11_places_73 : decode cX11_places 73 = .ok (.iload_n 3, 1) := by decide +kernel
theorem dX11_places_74 : decode cX11_places 74 = .ok (.invokevirtual 257, 3) := by decide +kernel
theorem dX11_places_77 : decode cX11_places 77 = .ok (.iload_n 3, 1) := by decide +kernel
theorem dX11_places_78 : decode cX11_places 78 = .ok (.if_icmp .ne 12, 3) := by decide +kernel
theorem dX11_places_81 : decode cX11_places 81 = .ok (.iload 5, 2) := by decide +kernel
theorem dX11_places_83 : decode cX11_places 83 = .ok (.iconst 1, 1) := by decide +kernel
theorem dX11_places_84 : decode cX11_places 84 = .ok (.iload 6, 2) := by decide +kernel
theorem dX11_places_86 : decode cX11_places 86 = .ok (.ishl, 1) := by decide +kernel
theorem dX11_places_87 : decode cX11_places 87 = .ok (.ior, 1) := by decide +kernel
theorem dX11_places_88 : decode cX11_places 88 = .ok (.istore 5, 2) := by decide +kernel
theorem dX11_places_90 : decode cX11_places 90 = .ok (.iinc 6 1, 3) := by decide +kernel
theorem dX11_places_93 : decode cX11_places 93 = .ok (.goto (-44), 3) := by decide +kernel
theorem dX11_places_96 : decode cX11_places 96 = .ok (.iload 5, 2) := by decide +kernel
theorem dX11_places_98 : decode cX11_places 98 = .ok (.ireturn, 1) := by decide +kernel
theorem dX11_gaps_0 : decode cX11_gaps 0 = .ok (.iconst 1, 1) := by decide +kernel
theorem dX11_gaps_1 : decode cX11_gaps 1 = .ok (.aload_n 0, 1) := by decide +kernel
theorem dX11_gaps_2 : decode cX11_gaps 2 = .ok (.getfield 25, 3) := by decide +kernel
theorem dX11_gaps_5 : decode cX11_gaps 5 = .ok (.getfield 254, 3) := by decide +kernel
theorem dX11_gaps_8 : decode cX11_gaps 8 = .ok (.ishl, 1) := by decide +kernel
theorem dX11_gaps_9 : decode cX11_gaps 9 = .ok (.iconst 1, 1) := by decide +kernel
theorem dX11_gaps_10 : decode cX11_gaps 10 = .ok (.isub, 1) := by decide +kernel
theorem dX11_gaps_11 : decode cX11_gaps 11 = .ok (.istore_n 1, 1) := by decide +kernel
theorem dX11_gaps_12 : decode cX11_gaps 12 = .ok (.aload_n 0, 1) := by decide +kernel
theorem dX11_gaps_13 : decode cX11_gaps 13 = .ok (.getfield 35, 3) := by decide +kernel
theorem dX11_gaps_16 : decode cX11_gaps 16 = .ok (.invokevirtual 165, 3) := by decide +kernel
theorem dX11_gaps_19 : decode cX11_gaps 19 = .ok (.istore_n 2, 1) := by decide +kernel
theorem dX11_gaps_20 : decode cX11_gaps 20 = .ok (.iconst 0, 1) := by decide +kernel
theorem dX11_gaps_21 : decode cX11_gaps 21 = .ok (.istore_n 3, 1) := by decide +kernel
theorem dX11_gaps_22 : decode cX11_gaps 22 = .ok (.iload_n 3, 1) := by decide +kernel
theorem dX11_gaps_23 : decode cX11_gaps 23 = .ok (.aload_n 0, 1) := by decide +kernel
theorem dX11_gaps_24 : decode cX11_gaps 24 = .ok (.getfield 25, 3) := by decide +kernel
theorem dX11_gaps_27 : decode cX11_gaps 27 = .ok (.getfield 254, 3) := by decide +kernel
theorem dX11_gaps_30 : decode cX11_gaps 30 = .ok (.if_icmp .ge 32, 3) := by decide +kernel
theorem dX11_gaps_33 : decode cX11_gaps 33 = .ok (.aload_n 0, 1) := by decide +kernel
theorem dX11_gaps_34 : decode cX11_gaps 34 = .ok (.getfield 25, 3) := by decide +kernel
theorem dX11_gaps_37 : decode cX11_gaps 37 = .ok (.getfield 131, 3) := by decide +kernel
theorem dX11_gaps_40 : decode cX11_gaps 40 = .ok (.iload_n 3, 1) := by decide +kernel
theorem dX11_gaps_41 : decode cX11_gaps 41 = .ok (.iload_n 2, 1) := by decide +kernel
theorem dX11_gaps_42 : decode cX11_gaps 42 = .ok (.invokevirtual 175, 3) := by decide +kernel
theorem dX11_gaps_45 : decode cX11_gaps 45 = .ok (.ifCond .eq 11, 3) := by decide +kernel
theorem dX11_gaps_48 : decode cX11_gaps 48 = .ok (.iload_n 1, 1) := by decide +kernel
theorem dX11_gaps_49 : decode cX11_gaps 49 = .ok (.iconst 1, 1) := by decide +kernel
theorem dX11_gaps_50 : decode cX11_gaps 50 = .ok (.iload_n 3, 1) := by decide +kernel
theorem dX11_gaps_51 : decode cX11_gaps 51 = .ok (.ishl, 1) := by decide +kernel
theorem dX11_gaps_52 : decode cX11_gaps 52 = .ok (.iconst (-1), 1) := by decide +kernel
theorem dX11_gaps_53 : decode cX11_gaps 53 = .ok (.ixor, 1) := by decide +kernel
theorem dX11_gaps_54 : decode cX11_gaps 54 = .ok (.iand, 1) := by decide +kernel
theorem dX11_gaps_55 : decode cX11_gaps 55 = .ok (.istore_n 1, 1) := by decide +kernel
theorem dX11_gaps_56 : decode cX11_gaps 56 = .ok (.iinc 3 1, 3) := by decide +kernel
theorem dX11_gaps_59 : decode cX11_gaps 59 = .ok (.goto (-37), 3) := by decide +kernel
theorem dX11_gaps_62 : decode cX11_gaps 62 = .ok (.iload_n 1, 1) := by decide +kernel
theorem dX11_gaps_63 : decode cX11_gaps 63 = .ok (.ireturn, 1) := by decide +kernel
theorem dX11_widest_0 : decode cX11_widest 0 = .ok (.aload_n 0, 1) := by decide +kernel
theorem dX11_widest_1 : decode cX11_widest 1 = .ok (.invokevirtual 261, 3) := by decide +kernel
theorem dX11_widest_4 : decode cX11_widest 4 = .ok (.istore_n 1, 1) := by decide +kernel
theorem dX11_widest_5 : decode cX11_widest 5 = .ok (.iconst 0, 1) := by decide +kernel
theorem dX11_widest_6 : decode cX11_widest 6 = .ok (.istore_n 2, 1) := by decide +kernel
theorem dX11_widest_7 : decode cX11_widest 7 = .ok (.iconst 0, 1) := by decide +kernel
theorem dX11_widest_8 : decode cX11_widest 8 = .ok (.istore_n 3, 1) := by decide +kernel
theorem dX11_widest_9 : decode cX11_widest 9 = .ok (.iconst 0, 1) := by decide +kernel
theorem dX11_widest_10 : decode cX11_widest 10 = .ok (.istore 4, 2) := by decide +kernel
theorem dX11_widest_12 : decode cX11_widest 12 = .ok (.iload 4, 2) := by decide +kernel
theorem dX11_widest_14 : decode cX11_widest 14 = .ok (.aload_n 0, 1) := by decide +kernel
theorem dX11_widest_15 : decode cX11_widest 15 = .ok (.getfield 25, 3) := by decide +kernel
theorem dX11_widest_18 : decode cX11_widest 18 = .ok (.getfield 254, 3) := by decide +kernel
theorem dX11_widest_21 : decode cX11_widest 21 = .ok (.if_icmp .ge 32, 3) := by decide +kernel
theorem dX11_widest_24 : decode cX11_widest 24 = .ok (.iload_n 1, 1) := by decide +kernel
theorem dX11_widest_25 : decode cX11_widest 25 = .ok (.iload 4, 2) := by decide +kernel
theorem dX11_widest_27 : decode cX11_widest 27 = .ok (.ishr, 1) := by decide +kernel
theorem dX11_widest_28 : decode cX11_widest 28 = .ok (.iconst 1, 1) := by decide +kernel
theorem dX11_widest_29 : decode cX11_widest 29 = .ok (.iand, 1) := by decide +kernel
theorem dX11_widest_30 : decode cX11_widest 30 = .ok (.ifCond .ne 7, 3) := by decide +kernel
theorem dX11_widest_33 : decode cX11_widest 33 = .ok (.iconst 0, 1) := by decide +kernel
theorem dX11_widest_34 : decode cX11_widest 34 = .ok (.goto 6, 3) := by decide +kernel
theorem dX11_widest_37 : decode cX11_widest 37 = .ok (.iload_n 3, 1) := by decide +kernel
theorem dX11_widest_38 : decode cX11_widest 38 = .ok (.iconst 1, 1) := by decide +kernel
theorem dX11_widest_39 : decode cX11_widest 39 = .ok (.iadd, 1) := by decide +kernel
theorem dX11_widest_40 : decode cX11_widest 40 = .ok (.istore_n 3, 1) := by decide +kernel
theorem dX11_widest_41 : decode cX11_widest 41 = .ok (.iload_n 2, 1) := by decide +kernel
theorem dX11_widest_42 : decode cX11_widest 42 = .ok (.iload_n 3, 1) := by decide +kernel
theorem dX11_widest_43 : decode cX11_widest 43 = .ok (.invokestatic 264, 3) := by decide +kernel
theorem dX11_widest_46 : decode cX11_widest 46 = .ok (.istore_n 2, 1) := by decide +kernel
theorem dX11_widest_47 : decode cX11_widest 47 = .ok (.iinc 4 1, 3) := by decide +kernel
theorem dX11_widest_50 : decode cX11_widest 50 = .ok (.goto (-38), 3) := by decide +kernel
theorem dX11_widest_53 : decode cX11_widest 53 = .ok (.iload_n 2, 1) := by decide +kernel
theorem dX11_widest_54 : decode cX11_widest 54 = .ok (.ireturn, 1) := by decide +kernel
theorem dX11_closes_0 : decode cX11_closes 0 = .ok (.iload_n 1, 1) := by decide +kernel
theorem dX11_closes_1 : decode cX11_closes 1 = .ok (.iconst 1, 1) := by decide +kernel
theorem dX11_closes_2 : decode cX11_closes 2 = .ok (.if_icmp .lt 9, 3) := by decide +kernel
theorem dX11_closes_5 : decode cX11_closes 5 = .ok (.iload_n 1, 1) := by decide +kernel
theorem dX11_closes_6 : decode cX11_closes 6 = .ok (.bipush 12, 2) := by decide +kernel
theorem dX11_closes_8 : decode cX11_closes 8 = .ok (.if_icmp .le 5, 3) := by decide +kernel
theorem dX11_closes_11 : decode cX11_closes 11 = .ok (.iconst (-1), 1) := by decide +kernel
theorem dX11_closes_12 : decode cX11_closes 12 = .ok (.ireturn, 1) := by decide +kernel
theorem dX11_closes_13 : decode cX11_closes 13 = .ok (.aload_n 0, 1) := by decide +kernel
theorem dX11_closes_14 : decode cX11_closes 14 = .ok (.invokevirtual 261, 3) := by decide +kernel
theorem dX11_closes_17 : decode cX11_closes 17 = .ok (.istore_n 2, 1) := by decide +kernel
theorem dX11_closes_18 : decode cX11_closes 18 = .ok (.iconst 0, 1) := by decide +kernel
theorem dX11_closes_19 : decode cX11_closes 19 = .ok (.istore_n 3, 1) := by decide +kernel
theorem dX11_closes_20 : decode cX11_closes 20 = .ok (.iconst 0, 1) := by decide +kernel
theorem dX11_closes_21 : decode cX11_closes 21 = .ok (.istore 4, 2) := by decide +kernel
theorem dX11_closes_23 : decode cX11_closes 23 = .ok (.iconst 0, 1) := by decide +kernel
theorem dX11_closes_24 : decode cX11_closes 24 = .ok (.istore 5, 2) := by decide +kernel
theorem dX11_closes_26 : decode cX11_closes 26 = .ok (.iload 5, 2) := by decide +kernel
theorem dX11_closes_28 : decode cX11_closes 28 = .ok (.aload_n 0, 1) := by decide +kernel
theorem dX11_closes_29 : decode cX11_closes 29 = .ok (.getfield 25, 3) := by decide +kernel
theorem dX11_closes_32 : decode cX11_closes 32 = .ok (.getfield 254, 3) := by decide +kernel
theorem dX11_closes_35 : decode cX11_closes 35 = .ok (.if_icmp .ge 40, 3) := by decide +kernel
theorem dX11_closes_38 : decode cX11_closes 38 = .ok (.iload_n 2, 1) := by decide +kernel
theorem dX11_closes_39 : decode cX11_closes 39 = .ok (.iload 5, 2) := by decide +kernel
theorem dX11_closes_41 : decode cX11_closes 41 = .ok (.ishr, 1) := by decide +kernel
theorem dX11_closes_42 : decode cX11_closes 42 = .ok (.iconst 1, 1) := by decide +kernel
theorem dX11_closes_43 : decode cX11_closes 43 = .ok (.iand, 1) := by decide +kernel
theorem dX11_closes_44 : decode cX11_closes 44 = .ok (.ifCond .ne 7, 3) := by decide +kernel
theorem dX11_closes_47 : decode cX11_closes 47 = .ok (.iconst 0, 1) := by decide +kernel
theorem dX11_closes_48 : decode cX11_closes 48 = .ok (.goto 7, 3) := by decide +kernel
theorem dX11_closes_51 : decode cX11_closes 51 = .ok (.iload 4, 2) := by decide +kernel
theorem dX11_closes_53 : decode cX11_closes 53 = .ok (.iconst 1, 1) := by decide +kernel
theorem dX11_closes_54 : decode cX11_closes 54 = .ok (.iadd, 1) := by decide +kernel
theorem dX11_closes_55 : decode cX11_closes 55 = .ok (.istore 4, 2) := by decide +kernel
theorem dX11_closes_57 : decode cX11_closes 57 = .ok (.iload 4, 2) := by decide +kernel
theorem dX11_closes_59 : decode cX11_closes 59 = .ok (.iload_n 1, 1) := by decide +kernel
theorem dX11_closes_60 : decode cX11_closes 60 = .ok (.if_icmp .ne 9, 3) := by decide +kernel
theorem dX11_closes_63 : decode cX11_closes 63 = .ok (.iinc 3 1, 3) := by decide +kernel
theorem dX11_closes_66 : decode cX11_closes 66 = .ok (.iconst 0, 1) := by decide +kernel
theorem dX11_closes_67 : decode cX11_closes 67 = .ok (.istore 4, 2) := by decide +kernel
theorem dX11_closes_69 : decode cX11_closes 69 = .ok (.iinc 5 1, 3) := by decide +kernel
theorem dX11_closes_72 : decode cX11_closes 72 = .ok (.goto (-46), 3) := by decide +kernel
theorem dX11_closes_75 : decode cX11_closes 75 = .ok (.iload_n 3, 1) := by decide +kernel
theorem dX11_closes_76 : decode cX11_closes 76 = .ok (.ireturn, 1) := by decide +kernel
theorem dX11_walk_0 : decode cX11_walk 0 = .ok (.aload_n 0, 1) := by decide +kernel
theorem dX11_walk_1 : decode cX11_walk 1 = .ok (.iload_n 1, 1) := by decide +kernel
theorem dX11_walk_2 : decode cX11_walk 2 = .ok (.invokevirtual 172, 3) := by decide +kernel
theorem dX11_walk_5 : decode cX11_walk 5 = .ok (.ifCond .eq 21, 3) := by decide +kernel
theorem dX11_walk_8 : decode cX11_walk 8 = .ok (.iload_n 2, 1) := by decide +kernel
theorem dX11_walk_9 : decode cX11_walk 9 = .ok (.iconst 1, 1) := by decide +kernel
theorem dX11_walk_10 : decode cX11_walk 10 = .ok (.aload_n 0, 1) := by decide +kernel
theorem dX11_walk_11 : decode cX11_walk 11 = .ok (.getfield 25, 3) := by decide +kernel
theorem dX11_walk_14 : decode cX11_walk 14 = .ok (.getfield 254, 3) := by decide +kernel
theorem dX11_walk_17 : decode cX11_walk 17 = .ok (.ishl, 1) := by decide +kernel
theorem dX11_walk_18 : decode cX11_walk 18 = .ok (.iconst 1, 1) := by decide +kernel
theorem dX11_walk_19 : decode cX11_walk 19 = .ok (.isub, 1) := by decide +kernel
theorem dX11_walk_20 : decode cX11_walk 20 = .ok (.iconst (-1), 1) := by decide +kernel
theorem dX11_walk_21 : decode cX11_walk 21 = .ok (.ixor, 1) := by decide +kernel
theorem dX11_walk_22 : decode cX11_walk 22 = .ok (.iand, 1) := by decide +kernel
theorem dX11_walk_23 : decode cX11_walk 23 = .ok (.ifCond .eq 5, 3) := by decide +kernel
theorem dX11_walk_26 : decode cX11_walk 26 = .ok (.iconst (-1), 1) := by decide +kernel
theorem dX11_walk_27 : decode cX11_walk 27 = .ok (.ireturn, 1) := by decide +kernel
theorem dX11_walk_28 : decode cX11_walk 28 = .ok (.iload_n 1, 1) := by decide +kernel
theorem dX11_walk_29 : decode cX11_walk 29 = .ok (.istore_n 3, 1) := by decide +kernel
theorem dX11_walk_30 : decode cX11_walk 30 = .ok (.iload_n 1, 1) := by decide +kernel
theorem dX11_walk_31 : decode cX11_walk 31 = .ok (.istore 4, 2) := by decide +kernel
theorem dX11_walk_33 : decode cX11_walk 33 = .ok (.iconst 0, 1) := by decide +kernel
theorem dX11_walk_34 : decode cX11_walk 34 = .ok (.istore 5, 2) := by decide +kernel
theorem dX11_walk_36 : decode cX11_walk 36 = .ok (.iload 5, 2) := by decide +kernel
theorem dX11_walk_38 : decode cX11_walk 38 = .ok (.aload_n 0, 1) := by decide +kernel
theorem dX11_walk_39 : decode cX11_walk 39 = .ok (.getfield 25, 3) := by decide +kernel
theorem dX11_walk_42 : decode cX11_walk 42 = .ok (.getfield 254, 3) := by decide +kernel
theorem dX11_walk_45 : decode cX11_walk 45 = .ok (.if_icmp .ge 34, 3) := by decide +kernel
theorem dX11_walk_48 : decode cX11_walk 48 = .ok (.iload_n 2, 1) := by decide +kernel
theorem dX11_walk_49 : decode cX11_walk 49 = .ok (.iload 5, 2) := by decide +kernel
theorem dX11_walk_51 : decode cX11_walk 51 = .ok (.ishr, 1) := by decide +kernel
theorem dX11_walk_52 : decode cX11_walk 52 = .ok (.iconst 1, 1) := by decide +kernel
theorem dX11_walk_53 : decode cX11_walk 53 = .ok (.iand, 1) := by decide +kernel
theorem dX11_walk_54 : decode cX11_walk 54 = .ok (.ifCond .eq 19, 3) := by decide +kernel
theorem dX11_walk_57 : decode cX11_walk 57 = .ok (.iload_n 3, 1) := by decide +kernel
theorem dX11_walk_58 : decode cX11_walk 58 = .ok (.iload 5, 2) := by decide +kernel
theorem dX11_walk_60 : decode cX11_walk 60 = .ok (.invokestatic 269, 3) := by decide +kernel
theorem dX11_walk_63 : decode cX11_walk 63 = .ok (.istore_n 3, 1) := by decide +kernel
theorem dX11_walk_64 : decode cX11_walk 64 = .ok (.iload 4, 2) := by decide +kernel
theorem dX11_walk_66 : decode cX11_walk 66 = .ok (.iload 5, 2) := by decide +kernel
theorem dX11_walk_68 : decode cX11_walk 68 = .ok (.invokestatic 264, 3) := by decide +kernel
theorem dX11_walk_71 : decode cX11_walk 71 = .ok (.istore 4, 2) := by decide +kernel
theorem dX11_walk_73 : decode cX11_walk 73 = .ok (.iinc 5 1, 3) := by decide +kernel
theorem dX11_walk_76 : decode cX11_walk 76 = .ok (.goto (-40), 3) := by decide +kernel
theorem dX11_walk_79 : decode cX11_walk 79 = .ok (.iload 4, 2) := by decide +kernel
theorem dX11_walk_81 : decode cX11_walk 81 = .ok (.iload_n 3, 1) := by decide +kernel
theorem dX11_walk_82 : decode cX11_walk 82 = .ok (.isub, 1) := by decide +kernel
theorem dX11_walk_83 : decode cX11_walk 83 = .ok (.iload_n 1, 1) := by decide +kernel
theorem dX11_walk_84 : decode cX11_walk 84 = .ok (.iload_n 3, 1) := by decide +kernel
theorem dX11_walk_85 : decode cX11_walk 85 = .ok (.isub, 1) := by decide +kernel
theorem dX11_walk_86 : decode cX11_walk 86 = .ok (.iload 4, 2) := by decide +kernel
theorem dX11_walk_88 : decode cX11_walk 88 = .ok (.iload_n 1, 1) := by decide +kernel
theorem dX11_walk_89 : decode cX11_walk 89 = .ok (.isub, 1) := by decide +kernel
theorem dX11_walk_90 : decode cX11_walk 90 = .ok (.invokestatic 269, 3) := by decide +kernel
theorem dX11_walk_93 : decode cX11_walk 93 = .ok (.iadd, 1) := by decide +kernel
theorem dX11_walk_94 : decode cX11_walk 94 = .ok (.ireturn, 1) := by decide +kernel
theorem dX11_plan_0 : decode cX11_plan 0 = .ok (.aload_n 0, 1) := by decide +kernel
theorem dX11_plan_1 : decode cX11_plan 1 = .ok (.iconst 0, 1) := by decide +kernel
theorem dX11_plan_2 : decode cX11_plan 2 = .ok (.putfield 115, 3) := by decide +kernel
theorem dX11_plan_5 : decode cX11_plan 5 = .ok (.iload_n 1, 1) := by decide +kernel
theorem dX11_plan_6 : decode cX11_plan 6 = .ok (.iconst 1, 1) := by decide +kernel
theorem dX11_plan_7 : decode cX11_plan 7 = .ok (.if_icmp .lt 19, 3) := by decide +kernel
theorem dX11_plan_10 : decode cX11_plan 10 = .ok (.iload_n 1, 1) := by decide +kernel
theorem dX11_plan_11 : decode cX11_plan 11 = .ok (.iconst 3, 1) := by decide +kernel
theorem dX11_plan_12 : decode cX11_plan 12 = .ok (.if_icmp .gt 14, 3) := by decide +kernel
theorem dX11_plan_15 : decode cX11_plan 15 = .ok (.iload_n 2, 1) := by decide +kernel
theorem dX11_plan_16 : decode cX11_plan 16 = .ok (.iconst 1, 1) := by decide +kernel
theorem dX11_plan_17 : decode cX11_plan 17 = .ok (.if_icmp .lt 9, 3) := by decide +kernel
theorem dX11_plan_20 : decode cX11_plan 20 = .ok (.iload_n 2, 1) := by decide +kernel
theorem dX11_plan_21 : decode cX11_plan 21 = .ok (.bipush 99, 2) := by decide +kernel
theorem dX11_plan_23 : decode cX11_plan 23 = .ok (.if_icmp .le 5, 3) := by decide +kernel
theorem dX11_plan_26 : decode cX11_plan 26 = .ok (.iconst (-1), 1) := by decide +kernel
theorem dX11_plan_27 : decode cX11_plan 27 = .ok (.ireturn, 1) := by decide +kernel
theorem dX11_plan_28 : decode cX11_plan 28 = .ok (.aload_n 0, 1) := by decide +kernel
theorem dX11_plan_29 : decode cX11_plan 29 = .ok (.getfield 73, 3) := by decide +kernel
theorem dX11_plan_32 : decode cX11_plan 32 = .ok (.aload_n 0, 1) := by decide +kernel
theorem dX11_plan_33 : decode cX11_plan 33 = .ok (.getfield 25, 3) := by decide +kernel
theorem dX11_plan_36 : decode cX11_plan 36 = .ok (.aload_n 0, 1) := by decide +kernel
theorem dX11_plan_37 : decode cX11_plan 37 = .ok (.getfield 35, 3) := by decide +kernel
theorem dX11_plan_40 : decode cX11_plan 40 = .ok (.iload_n 1, 1) := by decide +kernel
theorem dX11_plan_41 : decode cX11_plan 41 = .ok (.iload_n 2, 1) := by decide +kernel
theorem dX11_plan_42 : decode cX11_plan 42 = .ok (.invokevirtual 272, 3) := by decide +kernel
theorem dX11_plan_45 : decode cX11_plan 45 = .ok (.istore_n 3, 1) := by decide +kernel
theorem dX11_plan_46 : decode cX11_plan 46 = .ok (.iconst 0, 1) := by decide +kernel
theorem dX11_plan_47 : decode cX11_plan 47 = .ok (.istore 4, 2) := by decide +kernel
theorem dX11_plan_49 : decode cX11_plan 49 = .ok (.iload 4, 2) := by decide +kernel
theorem dX11_plan_51 : decode cX11_plan 51 = .ok (.iload_n 1, 1) := by decide +kernel
theorem dX11_plan_52 : decode cX11_plan 52 = .ok (.if_icmp .ge 22, 3) := by decide +kernel
theorem dX11_plan_55 : decode cX11_plan 55 = .ok (.aload_n 0, 1) := by decide +kernel
theorem dX11_plan_56 : decode cX11_plan 56 = .ok (.aload_n 0, 1) := by decide +kernel
theorem dX11_plan_57 : decode cX11_plan 57 = .ok (.getfield 73, 3) := by decide +kernel
theorem dX11_plan_60 : decode cX11_plan 60 = .ok (.iload 4, 2) := by decide +kernel
theorem dX11_plan_62 : decode cX11_plan 62 = .ok (.invokevirtual 276, 3) := by decide +kernel
theorem dX11_plan_65 : decode cX11_plan 65 = .ok (.invokevirtual 279, 3) := by decide +kernel
theorem dX11_plan_68 : decode cX11_plan 68 = .ok (.iinc 4 1, 3) := by decide +kernel
theorem dX11_plan_71 : decode cX11_plan 71 = .ok (.goto (-22), 3) := by decide +kernel
theorem dX11_plan_74 : decode cX11_plan 74 = .ok (.iload_n 3, 1) := by decide +kernel
theorem dX11_plan_75 : decode cX11_plan 75 = .ok (.ireturn, 1) := by decide +kernel
theorem dX11_joy_0 : decode cX11_joy 0 = .ok (.aload_n 0, 1) := by decide +kernel
theorem dX11_joy_1 : decode cX11_joy 1 = .ok (.iload_n 1, 1) := by decide +kernel
theorem dX11_joy_2 : decode cX11_joy 2 = .ok (.invokevirtual 282, 3) := by decide +kernel
theorem dX11_joy_5 : decode cX11_joy 5 = .ok (.ifCond .eq 11, 3) := by decide +kernel
theorem dX11_joy_8 : decode cX11_joy 8 = .ok (.aload_n 0, 1) := by decide +kernel
theorem dX11_joy_9 : decode cX11_joy 9 = .ok (.iload_n 1, 1) := by decide +kernel
theorem dX11_joy_10 : decode cX11_joy 10 = .ok (.invokevirtual 285, 3) := by decide +kernel
theorem dX11_joy_13 : decode cX11_joy 13 = .ok (.goto 4, 3) := by decide +kernel
theorem dX11_joy_16 : decode cX11_joy 16 = .ok (.iconst 1, 1) := by decide +kernel
theorem dX11_joy_17 : decode cX11_joy 17 = .ok (.ireturn, 1) := by decide +kernel
theorem dX11_saddest_0 : decode cX11_saddest 0 = .ok (.iconst (-1), 1) := by decide +kernel
theorem dX11_saddest_1 : decode cX11_saddest 1 = .ok (.istore_n 1, 1) := by decide +kernel
theorem dX11_saddest_2 : decode cX11_saddest 2 = .ok (.iconst 0, 1) := by decide +kernel
theorem dX11_saddest_3 : decode cX11_saddest 3 = .ok (.istore_n 2, 1) := by decide +kernel
theorem dX11_saddest_4 : decode cX11_saddest 4 = .ok (.iconst 0, 1) := by decide +kernel
theorem dX11_saddest_5 : decode cX11_saddest 5 = .ok (.istore_n 3, 1) := by decide +kernel
theorem dX11_saddest_6 : decode cX11_saddest 6 = .ok (.iload_n 3, 1) := by decide +kernel
theorem dX11_saddest_7 : decode cX11_saddest 7 = .ok (.aload_n 0, 1) := by decide +kernel
theorem dX11_saddest_8 : decode cX11_saddest 8 = .ok (.getfield 25, 3) := by decide +kernel
theorem dX11_saddest_11 : decode cX11_saddest 11 = .ok (.getfield 288, 3) := by decide +kernel
theorem dX11_saddest_14 : decode cX11_saddest 14 = .ok (.if_icmp .ge 32, 3) := by decide +kernel
theorem dX11_saddest_17 : decode cX11_saddest 17 = .ok (.aload_n 0, 1) := by decide +kernel
theorem dX11_saddest_18 : decode cX11_saddest 18 = .ok (.iload_n 3, 1) := by decide +kernel
theorem dX11_saddest_19 : decode cX11_saddest 19 = .ok (.invokevirtual 285, 3) := by decide +kernel
theorem dX11_saddest_22 : decode cX11_saddest 22 = .ok (.istore 4, 2) := by decide +kernel
theorem dX11_saddest_24 : decode cX11_saddest 24 = .ok (.iload_n 1, 1) := by decide +kernel
theorem dX11_saddest_25 : decode cX11_saddest 25 = .ok (.iconst (-1), 1) := by decide +kernel
theorem dX11_saddest_26 : decode cX11_saddest 26 = .ok (.if_icmp .eq 9, 3) := by decide +kernel
theorem dX11_saddest_29 : decode cX11_saddest 29 = .ok (.iload 4, 2) := by decide +kernel
theorem dX11_saddest_31 : decode cX11_saddest 31 = .ok (.iload_n 2, 1) := by decide +kernel
theorem dX11_saddest_32 : decode cX11_saddest 32 = .ok (.if_icmp .ge 8, 3) := by decide +kernel
theorem dX11_saddest_35 : decode cX11_saddest 35 = .ok (.iload_n 3, 1) := by decide +kernel
theorem dX11_saddest_36 : decode cX11_saddest 36 = .ok (.istore_n 1, 1) := by decide +kernel
theorem dX11_saddest_37 : decode cX11_saddest 37 = .ok (.iload 4, 2) := by decide +kernel
theorem dX11_saddest_39 : decode cX11_saddest 39 = .ok (.istore_n 2, 1) := by decide +kernel
theorem dX11_saddest_40 : decode cX11_saddest 40 = .ok (.iinc 3 1, 3) := by decide +kernel
theorem dX11_saddest_43 : decode cX11_saddest 43 = .ok (.goto (-37), 3) := by decide +kernel
theorem dX11_saddest_46 : decode cX11_saddest 46 = .ok (.iload_n 1, 1) := by decide +kernel
theorem dX11_saddest_47 : decode cX11_saddest 47 = .ok (.ireturn, 1) := by decide +kernel
theorem dX11_joyNow_0 : decode cX11_joyNow 0 = .ok (.aload_n 0, 1) := by decide +kernel
theorem dX11_joyNow_1 : decode cX11_joyNow 1 = .ok (.getfield 25, 3) := by decide +kernel
theorem dX11_joyNow_4 : decode cX11_joyNow 4 = .ok (.getfield 131, 3) := by decide +kernel
theorem dX11_joyNow_7 : decode cX11_joyNow 7 = .ok (.aload_n 0, 1) := by decide +kernel
theorem dX11_joyNow_8 : decode cX11_joyNow 8 = .ok (.getfield 84, 3) := by decide +kernel
theorem dX11_joyNow_11 : decode cX11_joyNow 11 = .ok (.aload_n 0, 1) := by decide +kernel
theorem dX11_joyNow_12 : decode cX11_joyNow 12 = .ok (.invokevirtual 161, 3) := by decide +kernel
theorem dX11_joyNow_15 : decode cX11_joyNow 15 = .ok (.invokevirtual 291, 3) := by decide +kernel
theorem dX11_joyNow_18 : decode cX11_joyNow 18 = .ok (.aload_n 0, 1) := by decide +kernel
theorem dX11_joyNow_19 : decode cX11_joyNow 19 = .ok (.getfield 25, 3) := by decide +kernel
theorem dX11_joyNow_22 : decode cX11_joyNow 22 = .ok (.iload_n 1, 1) := by decide +kernel
theorem dX11_joyNow_23 : decode cX11_joyNow 23 = .ok (.aload_n 0, 1) := by decide +kernel
theorem dX11_joyNow_24 : decode cX11_joyNow 24 = .ok (.getfield 84, 3) := by decide +kernel
theorem dX11_joyNow_27 : decode cX11_joyNow 27 = .ok (.invokevirtual 295, 3) := by decide +kernel
theorem dX11_joyNow_30 : decode cX11_joyNow 30 = .ok (.ireturn, 1) := by decide +kernel
theorem dX11_game_0 : decode cX11_game 0 = .ok (.aload_n 0, 1) := by decide +kernel
theorem dX11_game_1 : decode cX11_game 1 = .ok (.iconst 0, 1) := by decide +kernel
theorem dX11_game_2 : decode cX11_game 2 = .ok (.putfield 115, 3) := by decide +kernel
theorem dX11_game_5 : decode cX11_game 5 = .ok (.aload_n 0, 1) := by decide +kernel
theorem dX11_game_6 : decode cX11_game 6 = .ok (.getfield 80, 3) := by decide +kernel
theorem dX11_game_9 : decode cX11_game 9 = .ok (.aload_n 0, 1) := by decide +kernel
theorem dX11_game_10 : decode cX11_game 10 = .ok (.getfield 25, 3) := by decide +kernel
theorem dX11_game_13 : decode cX11_game 13 = .ok (.aload_n 0, 1) := by decide +kernel
theorem dX11_game_14 : decode cX11_game 14 = .ok (.getfield 35, 3) := by decide +kernel
theorem dX11_game_17 : decode cX11_game 17 = .ok (.invokevirtual 165, 3) := by decide +kernel
theorem dX11_game_20 : decode cX11_game 20 = .ok (.invokevirtual 299, 3) := by decide +kernel
theorem dX11_game_23 : decode cX11_game 23 = .ok (.istore_n 1, 1) := by decide +kernel
theorem dX11_game_24 : decode cX11_game 24 = .ok (.iconst 0, 1) := by decide +kernel
theorem dX11_game_25 : decode cX11_game 25 = .ok (.istore_n 2, 1) := by decide +kernel
theorem dX11_game_26 : decode cX11_game 26 = .ok (.iconst 0, 1) := by decide +kernel
theorem dX11_game_27 : decode cX11_game 27 = .ok (.istore_n 3, 1) := by decide +kernel
theorem dX11_game_28 : decode cX11_game 28 = .ok (.iload_n 3, 1) := by decide +kernel
theorem dX11_game_29 : decode cX11_game 29 = .ok (.aload_n 0, 1) := by decide +kernel
theorem dX11_game_30 : decode cX11_game 30 = .ok (.getfield 25, 3) := by decide +kernel
theorem dX11_game_33 : decode cX11_game 33 = .ok (.getfield 288, 3) := by decide +kernel
theorem dX11_game_36 : decode cX11_game 36 = .ok (.if_icmp .ge 40, 3) := by decide +kernel
theorem dX11_game_39 : decode cX11_game 39 = .ok (.aload_n 0, 1) := by decide +kernel
theorem dX11_game_40 : decode cX11_game 40 = .ok (.getfield 80, 3) := by decide +kernel
theorem dX11_game_43 : decode cX11_game 43 = .ok (.iload_n 1, 1) := by decide +kernel
theorem dX11_game_44 : decode cX11_game 44 = .ok (.iload_n 3, 1) := by decide +kernel
theorem dX11_game_45 : decode cX11_game 45 = .ok (.invokevirtual 302, 3) := by decide +kernel
theorem dX11_game_48 : decode cX11_game 48 = .ok (.istore 4, 2) := by decide +kernel
theorem dX11_game_50 : decode cX11_game 50 = .ok (.aload_n 0, 1) := by decide +kernel
theorem dX11_game_51 : decode cX11_game 51 = .ok (.iload 4, 2) := by decide +kernel
theorem dX11_game_53 : decode cX11_game 53 = .ok (.invokevirtual 279, 3) := by decide +kernel
theorem dX11_game_56 : decode cX11_game 56 = .ok (.iload_n 2, 1) := by decide +kernel
theorem dX11_game_57 : decode cX11_game 57 = .ok (.iload 4, 2) := by decide +kernel
theorem dX11_game_59 : decode cX11_game 59 = .ok (.iconst (-1), 1) := by decide +kernel
theorem dX11_game_60 : decode cX11_game 60 = .ok (.if_icmp .ne 7, 3) := by decide +kernel
theorem dX11_game_63 : decode cX11_game 63 = .ok (.iconst 0, 1) := by decide +kernel
theorem dX11_game_64 : decode cX11_game 64 = .ok (.goto 4, 3) := by decide +kernel
theorem dX11_game_67 : decode cX11_game 67 = .ok (.iconst 1, 1) := by decide +kernel
theorem dX11_game_68 : decode cX11_game 68 = .ok (.iadd, 1) := by decide +kernel
theorem dX11_game_69 : decode cX11_game 69 = .ok (.istore_n 2, 1) := by decide +kernel
theorem dX11_game_70 : decode cX11_game 70 = .ok (.iinc 3 1, 3) := by decide +kernel
theorem dX11_game_73 : decode cX11_game 73 = .ok (.goto (-45), 3) := by decide +kernel
theorem dX11_game_76 : decode cX11_game 76 = .ok (.iload_n 2, 1) := by decide +kernel
theorem dX11_game_77 : decode cX11_game 77 = .ok (.ireturn, 1) := by decide +kernel
theorem dX11_layDown_0 : decode cX11_layDown 0 = .ok (.aload_n 0, 1) := by decide +kernel
theorem dX11_layDown_1 : decode cX11_layDown 1 = .ok (.getfield 115, 3) := by decide +kernel
theorem dX11_layDown_4 : decode cX11_layDown 4 = .ok (.aload_n 0, 1) := by decide +kernel
theorem dX11_layDown_5 : decode cX11_layDown 5 = .ok (.getfield 88, 3) := by decide +kernel
theorem dX11_layDown_8 : decode cX11_layDown 8 = .ok (.arraylength, 1) := by decide +kernel
theorem dX11_layDown_9 : decode cX11_layDown 9 = .ok (.if_icmp .ge 23, 3) := by decide +kernel
theorem dX11_layDown_12 : decode cX11_layDown 12 = .ok (.aload_n 0, 1) := by decide +kernel
theorem dX11_layDown_13 : decode cX11_layDown 13 = .ok (.getfield 88, 3) := by decide +kernel
theorem dX11_layDown_16 : decode cX11_layDown 16 = .ok (.aload_n 0, 1) := by decide +kernel
theorem dX11_layDown_17 : decode cX11_layDown 17 = .ok (.getfield 115, 3) := by decide +kernel
theorem dX11_layDown_20 : decode cX11_layDown 20 = .ok (.iload_n 1, 1) := by decide +kernel
theorem dX11_layDown_21 : decode cX11_layDown 21 = .ok (.iastore, 1) := by decide +kernel
theorem dX11_layDown_22 : decode cX11_layDown 22 = .ok (.aload_n 0, 1) := by decide +kernel
theorem dX11_layDown_23 : decode cX11_layDown 23 = .ok (.dup, 1) := by decide +kernel
theorem dX11_layDown_24 : decode cX11_layDown 24 = .ok (.getfield 115, 3) := by decide +kernel
theorem dX11_layDown_27 : decode cX11_layDown 27 = .ok (.iconst 1, 1) := by decide +kernel
theorem dX11_layDown_28 : decode cX11_layDown 28 = .ok (.iadd, 1) := by decide +kernel
theorem dX11_layDown_29 : decode cX11_layDown 29 = .ok (.putfield 115, 3) := by decide +kernel
theorem dX11_layDown_32 : decode cX11_layDown 32 = .ok (.return_, 1) := by decide +kernel
theorem dX11_lies_0 : decode cX11_lies 0 = .ok (.iload_n 1, 1) := by decide +kernel
theorem dX11_lies_1 : decode cX11_lies 1 = .ok (.ifCond .lt 29, 3) := by decide +kernel
theorem dX11_lies_4 : decode cX11_lies 4 = .ok (.iload_n 1, 1) := by decide +kernel
theorem dX11_lies_5 : decode cX11_lies 5 = .ok (.aload_n 0, 1) := by decide +kernel
theorem dX11_lies_6 : decode cX11_lies 6 = .ok (.getfield 115, 3) := by decide +kernel
theorem dX11_lies_9 : decode cX11_lies 9 = .ok (.if_icmp .ge 21, 3) := by decide +kernel
theorem dX11_lies_12 : decode cX11_lies 12 = .ok (.iload_n 1, 1) := by decide +kernel
theorem dX11_lies_13 : decode cX11_lies 13 = .ok (.aload_n 0, 1) := by decide +kernel
theorem dX11_lies_14 : decode cX11_lies 14 = .ok (.getfield 88, 3) := by decide +kernel
theorem dX11_lies_17 : decode cX11_lies 17 = .ok (.arraylength, 1) := by decide +kernel
theorem dX11_lies_18 : decode cX11_lies 18 = .ok (.if_icmp .ge 12, 3) := by decide +kernel
theorem dX11_lies_21 : decode cX11_lies 21 = .ok (.aload_n 0, 1) := by decide +kernel
theorem dX11_lies_22 : decode cX11_lies 22 = .ok (.getfield 88, 3) := by decide +kernel
theorem dX11_lies_25 : decode cX11_lies 25 = .ok (.iload_n 1, 1) := by decide +kernel
theorem dX11_lies_26 : decode cX11_lies 26 = .ok (.iaload, 1) := by decide +kernel
theorem dX11_lies_27 : decode cX11_lies 27 = .ok (.goto 5, 3) := by decide +kernel
theorem dX11_lies_30 : decode cX11_lies 30 = .ok (.bipush (-2), 2) := by decide +kernel
theorem dX11_lies_32 : decode cX11_lies 32 = .ok (.ireturn, 1) := by decide +kernel
theorem dX11_ring_0 : decode cX11_ring 0 = .ok (.aload_n 0, 1) := by decide +kernel
theorem dX11_ring_1 : decode cX11_ring 1 = .ok (.iload_n 1, 1) := by decide +kernel
theorem dX11_ring_2 : decode cX11_ring 2 = .ok (.invokevirtual 305, 3) := by decide +kernel
theorem dX11_ring_5 : decode cX11_ring 5 = .ok (.ifCond .eq 16, 3) := by decide +kernel
theorem dX11_ring_8 : decode cX11_ring 8 = .ok (.aload_n 0, 1) := by decide +kernel
theorem dX11_ring_9 : decode cX11_ring 9 = .ok (.iload_n 2, 1) := by decide +kernel
theorem dX11_ring_10 : decode cX11_ring 10 = .ok (.invokevirtual 305, 3) := by decide +kernel
theorem dX11_ring_13 : decode cX11_ring 13 = .ok (.ifCond .eq 8, 3) := by decide +kernel
theorem dX11_ring_16 : decode cX11_ring 16 = .ok (.iload_n 1, 1) := by decide +kernel
theorem dX11_ring_17 : decode cX11_ring 17 = .ok (.iload_n 2, 1) := by decide +kernel
theorem dX11_ring_18 : decode cX11_ring 18 = .ok (.if_icmp .ne 5, 3) := by decide +kernel
theorem dX11_ring_21 : decode cX11_ring 21 = .ok (.iconst (-1), 1) := by decide +kernel
theorem dX11_ring_22 : decode cX11_ring 22 = .ok (.ireturn, 1) := by decide +kernel
theorem dX11_ring_23 : decode cX11_ring 23 = .ok (.iload_n 3, 1) := by decide +kernel
theorem dX11_ring_24 : decode cX11_ring 24 = .ok (.ifCond .eq 15, 3) := by decide +kernel
theorem dX11_ring_27 : decode cX11_ring 27 = .ok (.aload_n 0, 1) := by decide +kernel
theorem dX11_ring_28 : decode cX11_ring 28 = .ok (.getfield 59, 3) := by decide +kernel
theorem dX11_ring_31 : decode cX11_ring 31 = .ok (.iload_n 1, 1) := by decide +kernel
theorem dX11_ring_32 : decode cX11_ring 32 = .ok (.iload_n 2, 1) := by decide +kernel
theorem dX11_ring_33 : decode cX11_ring 33 = .ok (.invokevirtual 308, 3) := by decide +kernel
theorem dX11_ring_36 : decode cX11_ring 36 = .ok (.goto 12, 3) := by decide +kernel
theorem dX11_ring_39 : decode cX11_ring 39 = .ok (.aload_n 0, 1) := by decide +kernel
theorem dX11_ring_40 : decode cX11_ring 40 = .ok (.getfield 59, 3) := by decide +kernel
theorem dX11_ring_43 : decode cX11_ring 43 = .ok (.iload_n 2, 1) := by decide +kernel
theorem dX11_ring_44 : decode cX11_ring 44 = .ok (.iload_n 1, 1) := by decide +kernel
theorem dX11_ring_45 : decode cX11_ring 45 = .ok (.invokevirtual 308, 3) := by decide +kernel
theorem dX11_ring_48 : decode cX11_ring 48 = .ok (.ireturn, 1) := by decide +kernel
theorem dX11_untell_0 : decode cX11_untell 0 = .ok (.aload_n 0, 1) := by decide +kernel
theorem dX11_untell_1 : decode cX11_untell 1 = .ok (.getfield 59, 3) := by decide +kernel
theorem dX11_untell_4 : decode cX11_untell 4 = .ok (.iload_n 1, 1) := by decide +kernel
theorem dX11_untell_5 : decode cX11_untell 5 = .ok (.invokevirtual 311, 3) := by decide +kernel
theorem dX11_untell_8 : decode cX11_untell 8 = .ok (.ireturn, 1) := by decide +kernel
theorem dX11_later_0 : decode cX11_later 0 = .ok (.iload_n 1, 1) := by decide +kernel
theorem dX11_later_1 : decode cX11_later 1 = .ok (.ifCond .lt 25, 3) := by decide +kernel
theorem dX11_later_4 : decode cX11_later 4 = .ok (.iload_n 1, 1) := by decide +kernel
theorem dX11_later_5 : decode cX11_later 5 = .ok (.sipush 1000, 3) := by decide +kernel
theorem dX11_later_8 : decode cX11_later 8 = .ok (.if_icmp .gt 18, 3) := by decide +kernel
theorem dX11_later_11 : decode cX11_later 11 = .ok (.aload_n 0, 1) := by decide +kernel
theorem dX11_later_12 : decode cX11_later 12 = .ok (.getfield 59, 3) := by decide +kernel
theorem dX11_later_15 : decode cX11_later 15 = .ok (.getfield 314, 3) := by decide +kernel
theorem dX11_later_18 : decode cX11_later 18 = .ok (.iload_n 1, 1) := by decide +kernel
theorem dX11_later_19 : decode cX11_later 19 = .ok (.iadd, 1) := by decide +kernel
theorem dX11_later_20 : decode cX11_later 20 = .ok (.ldc_w 317, 3) := by decide +kernel
theorem dX11_later_23 : decode cX11_later 23 = .ok (.if_icmp .le 5, 3) := by decide +kernel
theorem dX11_later_26 : decode cX11_later 26 = .ok (.iconst (-1), 1) := by decide +kernel
theorem dX11_later_27 : decode cX11_later 27 = .ok (.ireturn, 1) := by decide +kernel
theorem dX11_later_28 : decode cX11_later 28 = .ok (.aload_n 0, 1) := by decide +kernel
theorem dX11_later_29 : decode cX11_later 29 = .ok (.getfield 59, 3) := by decide +kernel
theorem dX11_later_32 : decode cX11_later 32 = .ok (.dup, 1) := by decide +kernel
theorem dX11_later_33 : decode cX11_later 33 = .ok (.getfield 314, 3) := by decide +kernel
theorem dX11_later_36 : decode cX11_later 36 = .ok (.iload_n 1, 1) := by decide +kernel
theorem dX11_later_37 : decode cX11_later 37 = .ok (.iadd, 1) := by decide +kernel
theorem dX11_later_38 : decode cX11_later 38 = .ok (.putfield 314, 3) := by decide +kernel
theorem dX11_later_41 : decode cX11_later 41 = .ok (.aload_n 0, 1) := by decide +kernel
theorem dX11_later_42 : decode cX11_later 42 = .ok (.getfield 59, 3) := by decide +kernel
theorem dX11_later_45 : decode cX11_later 45 = .ok (.getfield 314, 3) := by decide +kernel
theorem dX11_later_48 : decode cX11_later 48 = .ok (.ireturn, 1) := by decide +kernel
theorem dX11_orders_0 : decode cX11_orders 0 = .ok (.aload_n 0, 1) := by decide +kernel
theorem dX11_orders_1 : decode cX11_orders 1 = .ok (.getfield 66, 3) := by decide +kernel
theorem dX11_orders_4 : decode cX11_orders 4 = .ok (.aload_n 0, 1) := by decide +kernel
theorem dX11_orders_5 : decode cX11_orders 5 = .ok (.getfield 59, 3) := by decide +kernel
theorem dX11_orders_8 : decode cX11_orders 8 = .ok (.iload_n 1, 1) := by decide +kernel
theorem dX11_orders_9 : decode cX11_orders 9 = .ok (.aload_n 0, 1) := by decide +kernel
theorem dX11_orders_10 : decode cX11_orders 10 = .ok (.getfield 25, 3) := by decide +kernel
theorem dX11_orders_13 : decode cX11_orders 13 = .ok (.getfield 131, 3) := by decide +kernel
theorem dX11_orders_16 : decode cX11_orders 16 = .ok (.aload_n 0, 1) := by decide +kernel
theorem dX11_orders_17 : decode cX11_orders 17 = .ok (.getfield 35, 3) := by decide +kernel
theorem dX11_orders_20 : decode cX11_orders 20 = .ok (.getfield 118, 3) := by decide +kernel
theorem dX11_orders_23 : decode cX11_orders 23 = .ok (.invokevirtual 318, 3) := by decide +kernel
theorem dX11_orders_26 : decode cX11_orders 26 = .ok (.aload_n 0, 1) := by decide +kernel
theorem dX11_orders_27 : decode cX11_orders 27 = .ok (.getfield 66, 3) := by decide +kernel
theorem dX11_orders_30 : decode cX11_orders 30 = .ok (.getfield 322, 3) := by decide +kernel
theorem dX11_orders_33 : decode cX11_orders 33 = .ok (.ireturn, 1) := by decide +kernel
theorem dX11_sure_0 : decode cX11_sure 0 = .ok (.aload_n 0, 1) := by decide +kernel
theorem dX11_sure_1 : decode cX11_sure 1 = .ok (.iload_n 1, 1) := by decide +kernel
theorem dX11_sure_2 : decode cX11_sure 2 = .ok (.invokevirtual 305, 3) := by decide +kernel
theorem dX11_sure_5 : decode cX11_sure 5 = .ok (.ifCond .ne 5, 3) := by decide +kernel
theorem dX11_sure_8 : decode cX11_sure 8 = .ok (.iconst (-1), 1) := by decide +kernel
theorem dX11_sure_9 : decode cX11_sure 9 = .ok (.ireturn, 1) := by decide +kernel
theorem dX11_sure_10 : decode cX11_sure 10 = .ok (.aload_n 0, 1) := by decide +kernel
theorem dX11_sure_11 : decode cX11_sure 11 = .ok (.getfield 66, 3) := by decide +kernel
theorem dX11_sure_14 : decode cX11_sure 14 = .ok (.aload_n 0, 1) := by decide +kernel
theorem dX11_sure_15 : decode cX11_sure 15 = .ok (.getfield 59, 3) := by decide +kernel
theorem dX11_sure_18 : decode cX11_sure 18 = .ok (.iload_n 2, 1) := by decide +kernel
theorem dX11_sure_19 : decode cX11_sure 19 = .ok (.aload_n 0, 1) := by decide +kernel
theorem dX11_sure_20 : decode cX11_sure 20 = .ok (.getfield 25, 3) := by decide +kernel
theorem dX11_sure_23 : decode cX11_sure 23 = .ok (.getfield 131, 3) := by decide +kernel
theorem dX11_sure_26 : decode cX11_sure 26 = .ok (.aload_n 0, 1) := by decide +kernel
theorem dX11_sure_27 : decode cX11_sure 27 = .ok (.getfield 35, 3) := by decide +kernel
theorem dX11_sure_30 : decode cX11_sure 30 = .ok (.getfield 118, 3) := by decide +kernel
theorem dX11_sure_33 : decode cX11_sure 33 = .ok (.invokevirtual 318, 3) := by decide +kernel
theorem dX11_sure_36 : decode cX11_sure 36 = .ok (.aload_n 0, 1) := by decide +kernel
theorem dX11_sure_37 : decode cX11_sure 37 = .ok (.getfield 66, 3) := by decide +kernel
theorem dX11_sure_40 : decode cX11_sure 40 = .ok (.getfield 322, 3) := by decide +kernel
theorem dX11_sure_43 : decode cX11_sure 43 = .ok (.ifCond .ne 7, 3) := by decide +kernel
theorem dX11_sure_46 : decode cX11_sure 46 = .ok (.iconst (-1), 1) := by decide +kernel
theorem dX11_sure_47 : decode cX11_sure 47 = .ok (.goto 11, 3) := by decide +kernel
theorem dX11_sure_50 : decode cX11_sure 50 = .ok (.aload_n 0, 1) := by decide +kernel
theorem dX11_sure_51 : decode cX11_sure 51 = .ok (.getfield 66, 3) := by decide +kernel
theorem dX11_sure_54 : decode cX11_sure 54 = .ok (.iload_n 1, 1) := by decide +kernel
theorem dX11_sure_55 : decode cX11_sure 55 = .ok (.invokevirtual 325, 3) := by decide +kernel
theorem dX11_sure_58 : decode cX11_sure 58 = .ok (.ireturn, 1) := by decide +kernel
theorem dX11_ask_0 : decode cX11_ask 0 = .ok (.iload_n 1, 1) := by decide +kernel
theorem dX11_ask_1 : decode cX11_ask 1 = .ok (.ifCond .lt 8, 3) := by decide +kernel
theorem dX11_ask_4 : decode cX11_ask 4 = .ok (.iload_n 1, 1) := by decide +kernel
theorem dX11_ask_5 : decode cX11_ask 5 = .ok (.iconst 1, 1) := by decide +kernel
theorem dX11_ask_6 : decode cX11_ask 6 = .ok (.if_icmp .le 5, 3) := by decide +kernel
theorem dX11_ask_9 : decode cX11_ask 9 = .ok (.iconst (-1), 1) := by decide +kernel
theorem dX11_ask_10 : decode cX11_ask 10 = .ok (.ireturn, 1) := by decide +kernel
theorem dX11_ask_11 : decode cX11_ask 11 = .ok (.aload_n 0, 1) := by decide +kernel
theorem dX11_ask_12 : decode cX11_ask 12 = .ok (.getfield 66, 3) := by decide +kernel
theorem dX11_ask_15 : decode cX11_ask 15 = .ok (.aload_n 0, 1) := by decide +kernel
theorem dX11_ask_16 : decode cX11_ask 16 = .ok (.getfield 59, 3) := by decide +kernel
theorem dX11_ask_19 : decode cX11_ask 19 = .ok (.iload_n 2, 1) := by decide +kernel
theorem dX11_ask_20 : decode cX11_ask 20 = .ok (.aload_n 0, 1) := by decide +kernel
theorem dX11_ask_21 : decode cX11_ask 21 = .ok (.getfield 25, 3) := by decide +kernel
theorem dX11_ask_24 : decode cX11_ask 24 = .ok (.getfield 131, 3) := by decide +kernel
theorem dX11_ask_27 : decode cX11_ask 27 = .ok (.aload_n 0, 1) := by decide +kernel
theorem dX11_ask_28 : decode cX11_ask 28 = .ok (.getfield 35, 3) := by decide +kernel
theorem dX11_ask_31 : decode cX11_ask 31 = .ok (.getfield 118, 3) := by decide +kernel
theorem dX11_ask_34 : decode cX11_ask 34 = .ok (.invokevirtual 318, 3) := by decide +kernel
theorem dX11_ask_37 : decode cX11_ask 37 = .ok (.aload_n 0, 1) := by decide +kernel
theorem dX11_ask_38 : decode cX11_ask 38 = .ok (.getfield 66, 3) := by decide +kernel
theorem dX11_ask_41 : decode cX11_ask 41 = .ok (.getfield 322, 3) := by decide +kernel
theorem dX11_ask_44 : decode cX11_ask 44 = .ok (.ifCond .ne 7, 3) := by decide +kernel
theorem dX11_ask_47 : decode cX11_ask 47 = .ok (.iconst (-1), 1) := by decide +kernel
theorem dX11_ask_48 : decode cX11_ask 48 = .ok (.goto 10, 3) := by decide +kernel
theorem dX11_ask_51 : decode cX11_ask 51 = .ok (.aload_n 0, 1) := by decide +kernel
theorem dX11_ask_52 : decode cX11_ask 52 = .ok (.getfield 66, 3) := by decide +kernel
theorem dX11_ask_55 : decode cX11_ask 55 = .ok (.invokevirtual 328, 3) := by decide +kernel
theorem dX11_ask_58 : decode cX11_ask 58 = .ok (.istore_n 3, 1) := by decide +kernel
theorem dX11_ask_59 : decode cX11_ask 59 = .ok (.iload_n 1, 1) := by decide +kernel
theorem dX11_ask_60 : decode cX11_ask 60 = .ok (.ifCond .eq 8, 3) := by decide +kernel
theorem dX11_ask_63 : decode cX11_ask 63 = .ok (.iload_n 3, 1) := by decide +kernel
theorem dX11_ask_64 : decode cX11_ask 64 = .ok (.iconst (-1), 1) := by decide +kernel
theorem dX11_ask_65 : decode cX11_ask 65 = .ok (.if_icmp .ne 7, 3) := by decide +kernel
theorem dX11_ask_68 : decode cX11_ask 68 = .ok (.iload_n 3, 1) := by decide +kernel
theorem dX11_ask_69 : decode cX11_ask 69 = .ok (.goto 11, 3) := by decide +kernel
theorem dX11_ask_72 : decode cX11_ask 72 = .ok (.aload_n 0, 1) := by decide +kernel
theorem dX11_ask_73 : decode cX11_ask 73 = .ok (.getfield 66, 3) := by decide +kernel
theorem dX11_ask_76 : decode cX11_ask 76 = .ok (.iload_n 3, 1) := by decide +kernel
theorem dX11_ask_77 : decode cX11_ask 77 = .ok (.invokevirtual 331, 3) := by decide +kernel
theorem dX11_ask_80 : decode cX11_ask 80 = .ok (.ireturn, 1) := by decide +kernel
theorem dX11_image_0 : decode cX11_image 0 = .ok (.iload_n 1, 1) := by decide +kernel
theorem dX11_image_1 : decode cX11_image 1 = .ok (.ifCond .lt 8, 3) := by decide +kernel
theorem dX11_image_4 : decode cX11_image 4 = .ok (.iload_n 1, 1) := by decide +kernel
theorem dX11_image_5 : decode cX11_image 5 = .ok (.iconst 3, 1) := by decide +kernel
theorem dX11_image_6 : decode cX11_image 6 = .ok (.if_icmp .lt 5, 3) := by decide +kernel
theorem dX11_image_9 : decode cX11_image 9 = .ok (.iconst (-1), 1) := by decide +kernel
theorem dX11_image_10 : decode cX11_image 10 = .ok (.ireturn, 1) := by decide +kernel
theorem dX11_image_11 : decode cX11_image 11 = .ok (.aload_n 0, 1) := by decide +kernel
theorem dX11_image_12 : decode cX11_image 12 = .ok (.getfield 52, 3) := by decide +kernel
theorem dX11_image_15 : decode cX11_image 15 = .ok (.iload_n 1, 1) := by decide +kernel
theorem dX11_image_16 : decode cX11_image 16 = .ok (.aload_n 0, 1) := by decide +kernel
theorem dX11_image_17 : decode cX11_image 17 = .ok (.getfield 25, 3) := by decide +kernel
theorem dX11_image_20 : decode cX11_image 20 = .ok (.getfield 131, 3) := by decide +kernel
theorem dX11_image_23 : decode cX11_image 23 = .ok (.aload_n 0, 1) := by decide +kernel
theorem dX11_image_24 : decode cX11_image 24 = .ok (.getfield 35, 3) := by decide +kernel
theorem dX11_image_27 : decode cX11_image 27 = .ok (.invokevirtual 334, 3) := by decide +kernel
theorem dX11_image_30 : decode cX11_image 30 = .ok (.aload_n 0, 1) := by decide +kernel
theorem dX11_image_31 : decode cX11_image 31 = .ok (.getfield 35, 3) := by decide +kernel
theorem dX11_image_34 : decode cX11_image 34 = .ok (.getfield 223, 3) := by decide +kernel
theorem dX11_image_37 : decode cX11_image 37 = .ok (.ireturn, 1) := by decide +kernel
theorem dX11_back_0 : decode cX11_back 0 = .ok (.aload_n 0, 1) := by decide +kernel
theorem dX11_back_1 : decode cX11_back 1 = .ok (.getfield 52, 3) := by decide +kernel
theorem dX11_back_4 : decode cX11_back 4 = .ok (.iload_n 1, 1) := by decide +kernel
theorem dX11_back_5 : decode cX11_back 5 = .ok (.invokevirtual 337, 3) := by decide +kernel
theorem dX11_back_8 : decode cX11_back 8 = .ok (.ifCond .ne 5, 3) := by decide +kernel
theorem dX11_back_11 : decode cX11_back 11 = .ok (.iconst (-1), 1) := by decide +kernel
theorem dX11_back_12 : decode cX11_back 12 = .ok (.ireturn, 1) := by decide +kernel
theorem dX11_back_13 : decode cX11_back 13 = .ok (.aload_n 0, 1) := by decide +kernel
theorem dX11_back_14 : decode cX11_back 14 = .ok (.getfield 52, 3) := by decide +kernel
theorem dX11_back_17 : decode cX11_back 17 = .ok (.iload_n 1, 1) := by decide +kernel
theorem dX11_back_18 : decode cX11_back 18 = .ok (.aload_n 0, 1) := by decide +kernel
theorem dX11_back_19 : decode cX11_back 19 = .ok (.getfield 25, 3) := by decide +kernel
theorem dX11_back_22 : decode cX11_back 22 = .ok (.getfield 131, 3) := by decide +kernel
theorem dX11_back_25 : decode cX11_back 25 = .ok (.aload_n 0, 1) := by decide +kernel
theorem dX11_back_26 : decode cX11_back 26 = .ok (.getfield 35, 3) := by decide +kernel
theorem dX11_back_29 : decode cX11_back 29 = .ok (.invokevirtual 340, 3) := by decide +kernel
theorem dX11_back_32 : decode cX11_back 32 = .ok (.aload_n 0, 1) := by decide +kernel
theorem dX11_back_33 : decode cX11_back 33 = .ok (.getfield 45, 3) := by decide +kernel
theorem dX11_back_36 : decode cX11_back 36 = .ok (.aload_n 0, 1) := by decide +kernel
theorem dX11_back_37 : decode cX11_back 37 = .ok (.getfield 35, 3) := by decide +kernel
theorem dX11_back_40 : decode cX11_back 40 = .ok (.invokevirtual 95, 3) := by decide +kernel
theorem dX11_back_43 : decode cX11_back 43 = .ok (.aload_n 0, 1) := by decide +kernel
theorem dX11_back_44 : decode cX11_back 44 = .ok (.getfield 35, 3) := by decide +kernel
theorem dX11_back_47 : decode cX11_back 47 = .ok (.getfield 223, 3) := by decide +kernel
theorem dX11_back_50 : decode cX11_back 50 = .ok (.ireturn, 1) := by decide +kernel
theorem dX11_about_0 : decode cX11_about 0 = .ok (.iload_n 1, 1) := by decide +kernel
theorem dX11_about_1 : decode cX11_about 1 = .ok (.tableswitch 192 0 14 #[75, 83, 91, 99, 107, 115, 123, 131, 139, 147, 155, 163, 171, 176, 187], 75) := by decide +kernel
theorem dX11_about_76 : decode cX11_about 76 = .ok (.aload_n 0, 1) := by decide +kernel
theorem dX11_about_77 : decode cX11_about 77 = .ok (.getfield 35, 3) := by decide +kernel
theorem dX11_about_80 : decode cX11_about 80 = .ok (.getfield 118, 3) := by decide +kernel
theorem dX11_about_83 : decode cX11_about 83 = .ok (.ireturn, 1) := by decide +kernel
theorem dX11_about_84 : decode cX11_about 84 = .ok (.aload_n 0, 1) := by decide +kernel
theorem dX11_about_85 : decode cX11_about 85 = .ok (.getfield 25, 3) := by decide +kernel
theorem dX11_about_88 : decode cX11_about 88 = .ok (.getfield 254, 3) := by decide +kernel
theorem dX11_about_91 : decode cX11_about 91 = .ok (.ireturn, 1) := by decide +kernel
theorem dX11_about_92 : decode cX11_about 92 = .ok (.aload_n 0, 1) := by decide +kernel
theorem dX11_about_93 : decode cX11_about 93 = .ok (.getfield 25, 3) := by decide +kernel
theorem dX11_about_96 : decode cX11_about 96 = .ok (.getfield 343, 3) := by decide +kernel
theorem dX11_about_99 : decode cX11_about 99 = .ok (.ireturn, 1) := by decide +kernel
theorem dX11_about_100 : decode cX11_about 100 = .ok (.aload_n 0, 1) := by decide +kernel
theorem dX11_about_101 : decode cX11_about 101 = .ok (.getfield 25, 3) := by decide +kernel
theorem dX11_about_104 : decode cX11_about 104 = .ok (.getfield 346, 3) := by decide +kernel
theorem dX11_about_107 : decode cX11_about 107 = .ok (.ireturn, 1) := by decide +kernel
theorem dX11_about_108 : decode cX11_about 108 = .ok (.aload_n 0, 1) := by decide +kernel
theorem dX11_about_109 : decode cX11_about 109 = .ok (.getfield 25, 3) := by decide +kernel
theorem dX11_about_112 : decode cX11_about 112 = .ok (.getfield 288, 3) := by decide +kernel
theorem dX11_about_115 : decode cX11_about 115 = .ok (.ireturn, 1) := by decide +kernel
theorem dX11_about_116 : decode cX11_about 116 = .ok (.aload_n 0, 1) := by decide +kernel
theorem dX11_about_117 : decode cX11_about 117 = .ok (.getfield 35, 3) := by decide +kernel
theorem dX11_about_120 : decode cX11_about 120 = .ok (.getfield 223, 3) := by decide +kernel
theorem dX11_about_123 : decode cX11_about 123 = .ok (.ireturn, 1) := by decide +kernel
theorem dX11_about_124 : decode cX11_about 124 = .ok (.aload_n 0, 1) := by decide +kernel
theorem dX11_about_125 : decode cX11_about 125 = .ok (.getfield 35, 3) := by decide +kernel
theorem dX11_about_128 : decode cX11_about 128 = .ok (.getfield 349, 3) := by decide +kernel
theorem dX11_about_131 : decode cX11_about 131 = .ok (.ireturn, 1) := by decide +kernel
theorem dX11_about_132 : decode cX11_about 132 = .ok (.aload_n 0, 1) := by decide +kernel
theorem dX11_about_133 : decode cX11_about 133 = .ok (.getfield 35, 3) := by decide +kernel
theorem dX11_about_136 : decode cX11_about 136 = .ok (.invokevirtual 352, 3) := by decide +kernel
theorem dX11_about_139 : decode cX11_about 139 = .ok (.ireturn, 1) := by decide +kernel
theorem dX11_about_140 : decode cX11_about 140 = .ok (.aload_n 0, 1) := by decide +kernel
theorem dX11_about_141 : decode cX11_about 141 = .ok (.getfield 45, 3) := by decide +kernel
theorem dX11_about_144 : decode cX11_about 144 = .ok (.getfield 355, 3) := by decide +kernel
theorem dX11_about_147 : decode cX11_about 147 = .ok (.ireturn, 1) := by decide +kernel
theorem dX11_about_148 : decode cX11_about 148 = .ok (.aload_n 0, 1) := by decide +kernel
theorem dX11_about_149 : decode cX11_about 149 = .ok (.getfield 45, 3) := by decide +kernel
theorem dX11_about_152 : decode cX11_about 152 = .ok (.getfield 358, 3) := by decide +kernel
theorem dX11_about_155 : decode cX11_about 155 = .ok (.ireturn, 1) := by decide +kernel
theorem dX11_about_156 : decode cX11_about 156 = .ok (.aload_n 0, 1) := by decide +kernel
theorem dX11_about_157 : decode cX11_about 157 = .ok (.getfield 59, 3) := by decide +kernel
theorem dX11_about_160 : decode cX11_about 160 = .ok (.getfield 361, 3) := by decide +kernel
theorem dX11_about_163 : decode cX11_about 163 = .ok (.ireturn, 1) := by decide +kernel
theorem dX11_about_164 : decode cX11_about 164 = .ok (.aload_n 0, 1) := by decide +kernel
theorem dX11_about_165 : decode cX11_about 165 = .ok (.getfield 59, 3) := by decide +kernel
theorem dX11_about_168 : decode cX11_about 168 = .ok (.getfield 314, 3) := by decide +kernel
theorem dX11_about_171 : decode cX11_about 171 = .ok (.ireturn, 1) := by decide +kernel
theorem dX11_about_172 : decode cX11_about 172 = .ok (.aload_n 0, 1) := by decide +kernel
theorem dX11_about_173 : decode cX11_about 173 = .ok (.getfield 99, 3) := by decide +kernel
theorem dX11_about_176 : decode cX11_about 176 = .ok (.ireturn, 1) := by decide +kernel
theorem dX11_about_177 : decode cX11_about 177 = .ok (.aload_n 0, 1) := by decide +kernel
theorem dX11_about_178 : decode cX11_about 178 = .ok (.getfield 25, 3) := by decide +kernel
theorem dX11_about_181 : decode cX11_about 181 = .ok (.getfield 362, 3) := by decide +kernel
theorem dX11_about_184 : decode cX11_about 184 = .ok (.getfield 366, 3) := by decide +kernel
theorem dX11_about_187 : decode cX11_about 187 = .ok (.ireturn, 1) := by decide +kernel
theorem dX11_about_188 : decode cX11_about 188 = .ok (.aload_n 0, 1) := by decide +kernel
theorem dX11_about_189 : decode cX11_about 189 = .ok (.getfield 115, 3) := by decide +kernel
theorem dX11_about_192 : decode cX11_about 192 = .ok (.ireturn, 1) := by decide +kernel
theorem dX11_about_193 : decode cX11_about 193 = .ok (.iconst (-1), 1) := by decide +kernel
theorem dX11_about_194 : decode cX11_about 194 = .ok (.ireturn, 1) := by decide +kernel
theorem dX11_standingNow_0 : decode cX11_standingNow 0 = .ok (.aload_n 0, 1) := by decide +kernel
theorem dX11_standingNow_1 : decode cX11_standingNow 1 = .ok (.getfield 25, 3) := by decide +kernel
theorem dX11_standingNow_4 : decode cX11_standingNow 4 = .ok (.getfield 131, 3) := by decide +kernel
theorem dX11_standingNow_7 : decode cX11_standingNow 7 = .ok (.aload_n 0, 1) := by decide +kernel
theorem dX11_standingNow_8 : decode cX11_standingNow 8 = .ok (.getfield 35, 3) := by decide +kernel
theorem dX11_standingNow_11 : decode cX11_standingNow 11 = .ok (.invokevirtual 165, 3) := by decide +kernel
theorem dX11_standingNow_14 : decode cX11_standingNow 14 = .ok (.invokevirtual 185, 3) := by decide +kernel
theorem dX11_standingNow_17 : decode cX11_standingNow 17 = .ok (.ireturn, 1) := by decide +kernel
theorem dX11_isBill_0 : decode cX11_isBill 0 = .ok (.iload_n 1, 1) := by decide +kernel
theorem dX11_isBill_1 : decode cX11_isBill 1 = .ok (.ifCond .lt 24, 3) := by decide +kernel
theorem dX11_isBill_4 : decode cX11_isBill 4 = .ok (.iload_n 1, 1) := by decide +kernel
theorem dX11_isBill_5 : decode cX11_isBill 5 = .ok (.aload_n 0, 1) := by decide +kernel
theorem dX11_isBill_6 : decode cX11_isBill 6 = .ok (.getfield 35, 3) := by decide +kernel
theorem dX11_isBill_9 : decode cX11_isBill 9 = .ok (.getfield 118, 3) := by decide +kernel
theorem dX11_isBill_12 : decode cX11_isBill 12 = .ok (.if_icmp .ge 13, 3) := by decide +kernel
theorem dX11_isBill_15 : decode cX11_isBill 15 = .ok (.iload_n 1, 1) := by decide +kernel
theorem dX11_isBill_16 : decode cX11_isBill 16 = .ok (.bipush 12, 2) := by decide +kernel
theorem dX11_isBill_18 : decode cX11_isBill 18 = .ok (.if_icmp .ge 7, 3) := by decide +kernel
theorem dX11_isBill_21 : decode cX11_isBill 21 = .ok (.iconst 1, 1) := by decide +kernel
theorem dX11_isBill_22 : decode cX11_isBill 22 = .ok (.goto 4, 3) := by decide +kernel
theorem dX11_isBill_25 : decode cX11_isBill 25 = .ok (.iconst 0, 1) := by decide +kernel
theorem dX11_isBill_26 : decode cX11_isBill 26 = .ok (.ireturn, 1) := by decide +kernel
theorem dX11_isOrdered_0 : decode cX11_isOrdered 0 = .ok (.aload_n 0, 1) := by decide +kernel
theorem dX11_isOrdered_1 : decode cX11_isOrdered 1 = .ok (.iload_n 1, 1) := by decide +kernel
theorem dX11_isOrdered_2 : decode cX11_isOrdered 2 = .ok (.invokevirtual 127, 3) := by decide +kernel
theorem dX11_isOrdered_5 : decode cX11_isOrdered 5 = .ok (.ifCond .eq 12, 3) := by decide +kernel
theorem dX11_isOrdered_8 : decode cX11_isOrdered 8 = .ok (.iload_n 1, 1) := by decide +kernel
theorem dX11_isOrdered_9 : decode cX11_isOrdered 9 = .ok (.iconst 5, 1) := by decide +kernel
theorem dX11_isOrdered_10 : decode cX11_isOrdered 10 = .ok (.if_icmp .ge 7, 3) := by decide +kernel
theorem dX11_isOrdered_13 : decode cX11_isOrdered 13 = .ok (.iconst 1, 1) := by decide +kernel
theorem dX11_isOrdered_14 : decode cX11_isOrdered 14 = .ok (.goto 4, 3) := by decide +kernel
theorem dX11_isOrdered_17 : decode cX11_isOrdered 17 = .ok (.iconst 0, 1) := by decide +kernel
theorem dX11_isOrdered_18 : decode cX11_isOrdered 18 = .ok (.ireturn, 1) := by decide +kernel
theorem dX11_isStake_0 : decode cX11_isStake 0 = .ok (.iload_n 1, 1) := by decide +kernel
theorem dX11_isStake_1 : decode cX11_isStake 1 = .ok (.ifCond .lt 18, 3) := by decide +kernel
theorem dX11_isStake_4 : decode cX11_isStake 4 = .ok (.iload_n 1, 1) := by decide +kernel
theorem dX11_isStake_5 : decode cX11_isStake 5 = .ok (.aload_n 0, 1) := by decide +kernel
theorem dX11_isStake_6 : decode cX11_isStake 6 = .ok (.getfield 25, 3) := by decide +kernel
theorem dX11_isStake_9 : decode cX11_isStake 9 = .ok (.getfield 254, 3) := by decide +kernel
theorem dX11_isStake_12 : decode cX11_isStake 12 = .ok (.if_icmp .ge 7, 3) := by decide +kernel
theorem dX11_isStake_15 : decode cX11_isStake 15 = .ok (.iconst 1, 1) := by decide +kernel
theorem dX11_isStake_16 : decode cX11_isStake 16 = .ok (.goto 4, 3) := by decide +kernel
theorem dX11_isStake_19 : decode cX11_isStake 19 = .ok (.iconst 0, 1) := by decide +kernel
theorem dX11_isStake_20 : decode cX11_isStake 20 = .ok (.ireturn, 1) := by decide +kernel
theorem dX11_isPlant_0 : decode cX11_isPlant 0 = .ok (.iload_n 1, 1) := by decide +kernel
theorem dX11_isPlant_1 : decode cX11_isPlant 1 = .ok (.ifCond .lt 23, 3) := by decide +kernel
theorem dX11_isPlant_4 : decode cX11_isPlant 4 = .ok (.iload_n 1, 1) := by decide +kernel
theorem dX11_isPlant_5 : decode cX11_isPlant 5 = .ok (.aload_n 0, 1) := by decide +kernel
theorem dX11_isPlant_6 : decode cX11_isPlant 6 = .ok (.getfield 25, 3) := by decide +kernel
theorem dX11_isPlant_9 : decode cX11_isPlant 9 = .ok (.getfield 343, 3) := by decide +kernel
theorem dX11_isPlant_12 : decode cX11_isPlant 12 = .ok (.if_icmp .ge 12, 3) := by decide +kernel
theorem dX11_isPlant_15 : decode cX11_isPlant 15 = .ok (.iload_n 1, 1) := by decide +kernel
theorem dX11_isPlant_16 : decode cX11_isPlant 16 = .ok (.iconst 4, 1) := by decide +kernel
theorem dX11_isPlant_17 : decode cX11_isPlant 17 = .ok (.if_icmp .ge 7, 3) := by decide +kernel
theorem dX11_isPlant_20 : decode cX11_isPlant 20 = .ok (.iconst 1, 1) := by decide +kernel
theorem dX11_isPlant_21 : decode cX11_isPlant 21 = .ok (.goto 4, 3) := by decide +kernel
theorem dX11_isPlant_24 : decode cX11_isPlant 24 = .ok (.iconst 0, 1) := by decide +kernel
theorem dX11_isPlant_25 : decode cX11_isPlant 25 = .ok (.ireturn, 1) := by decide +kernel
theorem dX11_isTopic_0 : decode cX11_isTopic 0 = .ok (.iload_n 1, 1) := by decide +kernel
theorem dX11_isTopic_1 : decode cX11_isTopic 1 = .ok (.ifCond .lt 23, 3) := by decide +kernel
theorem dX11_isTopic_4 : decode cX11_isTopic 4 = .ok (.iload_n 1, 1) := by decide +kernel
theorem dX11_isTopic_5 : decode cX11_isTopic 5 = .ok (.aload_n 0, 1) := by decide +kernel
theorem dX11_isTopic_6 : decode cX11_isTopic 6 = .ok (.getfield 25, 3) := by decide +kernel
theorem dX11_isTopic_9 : decode cX11_isTopic 9 = .ok (.getfield 346, 3) := by decide +kernel
theorem dX11_isTopic_12 : decode cX11_isTopic 12 = .ok (.if_icmp .ge 12, 3) := by decide +kernel
theorem dX11_isTopic_15 : decode cX11_isTopic 15 = .ok (.iload_n 1, 1) := by decide +kernel
theorem dX11_isTopic_16 : decode cX11_isTopic 16 = .ok (.iconst 4, 1) := by decide +kernel
theorem dX11_isTopic_17 : decode cX11_isTopic 17 = .ok (.if_icmp .ge 7, 3) := by decide +kernel
theorem dX11_isTopic_20 : decode cX11_isTopic 20 = .ok (.iconst 1, 1) := by decide +kernel
theorem dX11_isTopic_21 : decode cX11_isTopic 21 = .ok (.goto 4, 3) := by decide +kernel
theorem dX11_isTopic_24 : decode cX11_isTopic 24 = .ok (.iconst 0, 1) := by decide +kernel
theorem dX11_isTopic_25 : decode cX11_isTopic 25 = .ok (.ireturn, 1) := by decide +kernel
theorem dX11_isParty_0 : decode cX11_isParty 0 = .ok (.iload_n 1, 1) := by decide +kernel
theorem dX11_isParty_1 : decode cX11_isParty 1 = .ok (.ifCond .lt 23, 3) := by decide +kernel
theorem dX11_isParty_4 : decode cX11_isParty 4 = .ok (.iload_n 1, 1) := by decide +kernel
theorem dX11_isParty_5 : decode cX11_isParty 5 = .ok (.aload_n 0, 1) := by decide +kernel
theorem dX11_isParty_6 : decode cX11_isParty 6 = .ok (.getfield 25, 3) := by decide +kernel
theorem dX11_isParty_9 : decode cX11_isParty 9 = .ok (.getfield 288, 3) := by decide +kernel
theorem dX11_isParty_12 : decode cX11_isParty 12 = .ok (.if_icmp .ge 12, 3) := by decide +kernel
theorem dX11_isParty_15 : decode cX11_isParty 15 = .ok (.iload_n 1, 1) := by decide +kernel
theorem dX11_isParty_16 : decode cX11_isParty 16 = .ok (.iconst 3, 1) := by decide +kernel
theorem dX11_isParty_17 : decode cX11_isParty 17 = .ok (.if_icmp .ge 7, 3) := by decide +kernel
theorem dX11_isParty_20 : decode cX11_isParty 20 = .ok (.iconst 1, 1) := by decide +kernel
theorem dX11_isParty_21 : decode cX11_isParty 21 = .ok (.goto 4, 3) := by decide +kernel
theorem dX11_isParty_24 : decode cX11_isParty 24 = .ok (.iconst 0, 1) := by decide +kernel
theorem dX11_isParty_25 : decode cX11_isParty 25 = .ok (.ireturn, 1) := by decide +kernel
theorem dX11_isAhead_0 : decode cX11_isAhead 0 = .ok (.iload_n 1, 1) := by decide +kernel
theorem dX11_isAhead_1 : decode cX11_isAhead 1 = .ok (.ifCond .lt 13, 3) := by decide +kernel
theorem dX11_isAhead_4 : decode cX11_isAhead 4 = .ok (.iload_n 1, 1) := by decide +kernel
theorem dX11_isAhead_5 : decode cX11_isAhead 5 = .ok (.bipush 60, 2) := by decide +kernel
theorem dX11_isAhead_7 : decode cX11_isAhead 7 = .ok (.if_icmp .gt 7, 3) := by decide +kernel
theorem dX11_isAhead_10 : decode cX11_isAhead 10 = .ok (.iconst 1, 1) := by decide +kernel
theorem dX11_isAhead_11 : decode cX11_isAhead 11 = .ok (.goto 4, 3) := by decide +kernel
theorem dX11_isAhead_14 : decode cX11_isAhead 14 = .ok (.iconst 0, 1) := by decide +kernel
theorem dX11_isAhead_15 : decode cX11_isAhead 15 = .ok (.ireturn, 1) := by decide +kernel
theorem dX11_isSaying_0 : decode cX11_isSaying 0 = .ok (.iload_n 0, 1) := by decide +kernel
theorem dX11_isSaying_1 : decode cX11_isSaying 1 = .ok (.bipush (-9), 2) := by decide +kernel
theorem dX11_isSaying_3 : decode cX11_isSaying 3 = .ok (.if_icmp .lt 13, 3) := by decide +kernel
theorem dX11_isSaying_6 : decode cX11_isSaying 6 = .ok (.iload_n 0, 1) := by decide +kernel
theorem dX11_isSaying_7 : decode cX11_isSaying 7 = .ok (.bipush 9, 2) := by decide +kernel
theorem dX11_isSaying_9 : decode cX11_isSaying 9 = .ok (.if_icmp .gt 7, 3) := by decide +kernel
theorem dX11_isSaying_12 : decode cX11_isSaying 12 = .ok (.iconst 1, 1) := by decide +kernel
theorem dX11_isSaying_13 : decode cX11_isSaying 13 = .ok (.goto 4, 3) := by decide +kernel
theorem dX11_isSaying_16 : decode cX11_isSaying 16 = .ok (.iconst 0, 1) := by decide +kernel
theorem dX11_isSaying_17 : decode cX11_isSaying 17 = .ok (.ireturn, 1) := by decide +kernel
