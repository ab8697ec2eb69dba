theorem dX10_toldNumber_13 : decode cX10_toldNumber 13 = .ok (.getfield 20, 3) := by decide +kernel
theorem dX10_toldNumber_16 : decode cX10_toldNumber 16 = .ok (.iload_n 1, 1) := by decide +kernel
theorem dX10_toldNumber_17 : decode cX10_toldNumber 17 = .ok (.getstatic 116, 3) := by decide +kernel
theorem dX10_toldNumber_20 : decode cX10_toldNumber 20 = .ok (.iload_n 2, 1) := by decide +kernel
theorem dX10_toldNumber_21 : decode cX10_toldNumber 21 = .ok (.iaload, 1) := by decide +kernel
theorem dX10_toldNumber_22 : decode cX10_toldNumber 22 = .ok (.invokevirtual 79, 3) := by decide +kernel
theorem dX10_toldNumber_25 : decode cX10_toldNumber 25 = .ok (.ireturn, 1) := by decide +kernel
theorem dX10_toldNumber_26 : decode cX10_toldNumber 26 = .ok (.aload_n 0, 1) := by decide +kernel
theorem dX10_toldNumber_27 : decode cX10_toldNumber 27 = .ok (.iload_n 1, 1) := by decide +kernel
theorem dX10_toldNumber_28 : decode cX10_toldNumber 28 = .ok (.invokevirtual 93, 3) := by decide +kernel
theorem dX10_toldNumber_31 : decode cX10_toldNumber 31 = .ok (.ireturn, 1) := by decide +kernel
theorem dX10_setToldNumber_0 : decode cX10_setToldNumber 0 = .ok (.iload_n 2, 1) := by decide +kernel
theorem dX10_setToldNumber_1 : decode cX10_setToldNumber 1 = .ok (.ifCond .lt 28, 3) := by decide +kernel
theorem dX10_setToldNumber_4 : decode cX10_setToldNumber 4 = .ok (.iload_n 2, 1) := by decide +kernel
theorem dX10_setToldNumber_5 : decode cX10_setToldNumber 5 = .ok (.getstatic 116, 3) := by decide +kernel
theorem dX10_setToldNumber_8 : decode cX10_setToldNumber 8 = .ok (.arraylength, 1) := by decide +kernel
theorem dX10_setToldNumber_9 : decode cX10_setToldNumber 9 = .ok (.if_icmp .ge 20, 3) := by decide +kernel
theorem dX10_setToldNumber_12 : decode cX10_setToldNumber 12 = .ok (.aload_n 0, 1) := by decide +kernel
theorem dX10_setToldNumber_13 : decode cX10_setToldNumber 13 = .ok (.getfield 20, 3) := by decide +kernel
theorem dX10_setToldNumber_16 : decode cX10_setToldNumber 16 = .ok (.iload_n 1, 1) := by decide +kernel
theorem dX10_setToldNumber_17 : decode cX10_setToldNumber 17 = .ok (.getstatic 116, 3) := by decide +kernel
theorem dX10_setToldNumber_20 : decode cX10_setToldNumber 20 = .ok (.iload_n 2, 1) := by decide +kernel
theorem dX10_setToldNumber_21 : decode cX10_setToldNumber 21 = .ok (.iaload, 1) := by decide +kernel
theorem dX10_setToldNumber_22 : decode cX10_setToldNumber 22 = .ok (.iload_n 3, 1) := by decide +kernel
theorem dX10_setToldNumber_23 : decode cX10_setToldNumber 23 = .ok (.invokevirtual 106, 3) := by decide +kernel
theorem dX10_setToldNumber_26 : decode cX10_setToldNumber 26 = .ok (.goto 9, 3) := by decide +kernel
theorem dX10_setToldNumber_29 : decode cX10_setToldNumber 29 = .ok (.aload_n 0, 1) := by decide +kernel
theorem dX10_setToldNumber_30 : decode cX10_setToldNumber 30 = .ok (.iload_n 1, 1) := by decide +kernel
theorem dX10_setToldNumber_31 : decode cX10_setToldNumber 31 = .ok (.iload_n 3, 1) := by decide +kernel
theorem dX10_setToldNumber_32 : decode cX10_setToldNumber 32 = .ok (.invokevirtual 119, 3) := by decide +kernel
theorem dX10_setToldNumber_35 : decode cX10_setToldNumber 35 = .ok (.return_, 1) := by decide +kernel
theorem dX11_init_0 : decode cX11_init 0 = .ok (.aload_n 0, 1) := by decide +kernel
theorem dX11_init_1 : decode cX11_init 1 = .ok (.invokespecial 1, 3) := by decide +kernel
theorem dX11_init_4 : decode cX11_init 4 = .ok (.aload_n 0, 1) := by decide +kernel
theorem dX11_init_5 : decode cX11_init 5 = .ok (.new 7, 3) := by decide +kernel
theorem dX11_init_8 : decode cX11_init 8 = .ok (.dup, 1) := by decide +kernel
theorem dX11_init_9 : decode cX11_init 9 = .ok (.invokespecial 9, 3) := by decide +kernel
theorem dX11_init_12 : decode cX11_init 12 = .ok (.putfield 10, 3) := by decide +kernel
theorem dX11_init_15 : decode cX11_init 15 = .ok (.aload_n 0, 1) := by decide +kernel
theorem dX11_init_16 : decode cX11_init 16 = .ok (.new 7, 3) := by decide +kernel
theorem dX11_init_19 : decode cX11_init 19 = .ok (.dup, 1) := by decide +kernel
theorem dX11_init_20 : decode cX11_init 20 = .ok (.invokespecial 9, 3) := by decide +kernel
theorem dX11_init_23 : decode cX11_init 23 = .ok (.putfield 16, 3) := by decide +kernel
theorem dX11_init_26 : decode cX11_init 26 = .ok (.aload_n 0, 1) := by decide +kernel
theorem dX11_init_27 : decode cX11_init 27 = .ok (.new 19, 3) := by decide +kernel
theorem dX11_init_30 : decode cX11_init 30 = .ok (.dup, 1) := by decide +kernel
theorem dX11_init_31 : decode cX11_init 31 = .ok (.aload_n 0, 1) := by decide +kernel
theorem dX11_init_32 : decode cX11_init 32 = .ok (.getfield 16, 3) := by decide +kernel
theorem dX11_init_35 : decode cX11_init 35 = .ok (.invokespecial 21, 3) := by decide +kernel
theorem dX11_init_38 : decode cX11_init 38 = .ok (.putfield 24, 3) := by decide +kernel
theorem dX11_init_41 : decode cX11_init 41 = .ok (.aload_n 0, 1) := by decide +kernel
theorem dX11_init_42 : decode cX11_init 42 = .ok (.new 28, 3) := by decide +kernel
theorem dX11_init_45 : decode cX11_init 45 = .ok (.dup, 1) := by decide +kernel
theorem dX11_init_46 : decode cX11_init 46 = .ok (.aload_n 0, 1) := by decide +kernel
theorem dX11_init_47 : decode cX11_init 47 = .ok (.getfield 10, 3) := by decide +kernel
theorem dX11_init_50 : decode cX11_init 50 = .ok (.invokespecial 30, 3) := by decide +kernel
theorem dX11_init_53 : decode cX11_init 53 = .ok (.putfield 31, 3) := by decide +kernel
theorem dX11_init_56 : decode cX11_init 56 = .ok (.aload_n 0, 1) := by decide +kernel
theorem dX11_init_57 : decode cX11_init 57 = .ok (.new 35, 3) := by decide +kernel
theorem dX11_init_60 : decode cX11_init 60 = .ok (.dup, 1) := by decide +kernel
theorem dX11_init_61 : decode cX11_init 61 = .ok (.aload_n 0, 1) := by decide +kernel
theorem dX11_init_62 : decode cX11_init 62 = .ok (.getfield 10, 3) := by decide +kernel
theorem dX11_init_65 : decode cX11_init 65 = .ok (.aload_n 0, 1) := by decide +kernel
theorem dX11_init_66 : decode cX11_init 66 = .ok (.getfield 31, 3) := by decide +kernel
theorem dX11_init_69 : decode cX11_init 69 = .ok (.invokespecial 37, 3) := by decide +kernel
theorem dX11_init_72 : decode cX11_init 72 = .ok (.putfield 40, 3) := by decide +kernel
theorem dX11_init_75 : decode cX11_init 75 = .ok (.aload_n 0, 1) := by decide +kernel
theorem dX11_init_76 : decode cX11_init 76 = .ok (.new 44, 3) := by decide +kernel
theorem dX11_init_79 : decode cX11_init 79 = .ok (.dup, 1) := by decide +kernel
theorem dX11_init_80 : decode cX11_init 80 = .ok (.invokespecial 46, 3) := by decide +kernel
theorem dX11_init_83 : decode cX11_init 83 = .ok (.putfield 47, 3) := by decide +kernel
theorem dX11_init_86 : decode cX11_init 86 = .ok (.aload_n 0, 1) := by decide +kernel
theorem dX11_init_87 : decode cX11_init 87 = .ok (.new 51, 3) := by decide +kernel
theorem dX11_init_90 : decode cX11_init 90 = .ok (.dup, 1) := by decide +kernel
theorem dX11_init_91 : decode cX11_init 91 = .ok (.aload_n 0, 1) := by decide +kernel
theorem dX11_init_92 : decode cX11_init 92 = .ok (.getfield 10, 3) := by decide +kernel
theorem dX11_init_95 : decode cX11_init 95 = .ok (.invokespecial 53, 3) := by decide +kernel
theorem dX11_init_98 : decode cX11_init 98 = .ok (.putfield 54, 3) := by decide +kernel
theorem dX11_init_101 : decode cX11_init 101 = .ok (.aload_n 0, 1) := by decide +kernel
theorem dX11_init_102 : decode cX11_init 102 = .ok (.new 58, 3) := by decide +kernel
theorem dX11_init_105 : decode cX11_init 105 = .ok (.dup, 1) := by decide +kernel
theorem dX11_init_106 : decode cX11_init 106 = .ok (.aload_n 0, 1) := by decide +kernel
theorem dX11_init_107 : decode cX11_init 107 = .ok (.getfield 10, 3) := by decide +kernel
theorem dX11_init_110 : decode cX11_init 110 = .ok (.invokespecial 60, 3) := by decide +kernel
theorem dX11_init_113 : decode cX11_init 113 = .ok (.putfield 61, 3) := by decide +kernel
theorem dX11_init_116 : decode cX11_init 116 = .ok (.aload_n 0, 1) := by decide +kernel
theorem dX11_init_117 : decode cX11_init 117 = .ok (.new 65, 3) := by decide +kernel
theorem dX11_init_120 : decode cX11_init 120 = .ok (.dup, 1) := by decide +kernel
theorem dX11_init_121 : decode cX11_init 121 = .ok (.aload_n 0, 1) := by decide +kernel
theorem dX11_init_122 : decode cX11_init 122 = .ok (.getfield 10, 3) := by decide +kernel
theorem dX11_init_125 : decode cX11_init 125 = .ok (.invokespecial 67, 3) := by decide +kernel
theorem dX11_init_128 : decode cX11_init 128 = .ok (.putfield 68, 3) := by decide +kernel
theorem dX11_init_131 : decode cX11_init 131 = .ok (.aload_n 0, 1) := by decide +kernel
theorem dX11_init_132 : decode cX11_init 132 = .ok (.new 72, 3) := by decide +kernel
theorem dX11_init_135 : decode cX11_init 135 = .ok (.dup, 1) := by decide +kernel
theorem dX11_init_136 : decode cX11_init 136 = .ok (.invokespecial 74, 3) := by decide +kernel
theorem dX11_init_139 : decode cX11_init 139 = .ok (.putfield 75, 3) := by decide +kernel
theorem dX11_init_142 : decode cX11_init 142 = .ok (.aload_n 0, 1) := by decide +kernel
theorem dX11_init_143 : decode cX11_init 143 = .ok (.iconst 3, 1) := by decide +kernel
theorem dX11_init_144 : decode cX11_init 144 = .ok (.anewarray 7, 3) := by decide +kernel
theorem dX11_init_147 : decode cX11_init 147 = .ok (.putfield 79, 3) := by decide +kernel
theorem dX11_init_150 : decode cX11_init 150 = .ok (.return_, 1) := by decide +kernel
theorem dX11_feed_0 : decode cX11_feed 0 = .ok (.aload_n 0, 1) := by decide +kernel
theorem dX11_feed_1 : decode cX11_feed 1 = .ok (.getfield 24, 3) := by decide +kernel
theorem dX11_feed_4 : decode cX11_feed 4 = .ok (.bipush 20, 2) := by decide +kernel
theorem dX11_feed_6 : decode cX11_feed 6 = .ok (.invokevirtual 83, 3) := by decide +kernel
theorem dX11_feed_9 : decode cX11_feed 9 = .ok (.ifCond .ne 5, 3) := by decide +kernel
theorem dX11_feed_12 : decode cX11_feed 12 = .ok (.iconst (-1), 1) := by decide +kernel
theorem dX11_feed_13 : decode cX11_feed 13 = .ok (.ireturn, 1) := by decide +kernel
theorem dX11_feed_14 : decode cX11_feed 14 = .ok (.aload_n 0, 1) := by decide +kernel
theorem dX11_feed_15 : decode cX11_feed 15 = .ok (.getfield 24, 3) := by decide +kernel
theorem dX11_feed_18 : decode cX11_feed 18 = .ok (.iload_n 1, 1) := by decide +kernel
theorem dX11_feed_19 : decode cX11_feed 19 = .ok (.invokevirtual 87, 3) := by decide +kernel
theorem dX11_feed_22 : decode cX11_feed 22 = .ok (.aload_n 0, 1) := by decide +kernel
theorem dX11_feed_23 : decode cX11_feed 23 = .ok (.getfield 24, 3) := by decide +kernel
theorem dX11_feed_26 : decode cX11_feed 26 = .ok (.iload_n 2, 1) := by decide +kernel
theorem dX11_feed_27 : decode cX11_feed 27 = .ok (.invokevirtual 87, 3) := by decide +kernel
theorem dX11_feed_30 : decode cX11_feed 30 = .ok (.aload_n 0, 1) := by decide +kernel
theorem dX11_feed_31 : decode cX11_feed 31 = .ok (.getfield 24, 3) := by decide +kernel
theorem dX11_feed_34 : decode cX11_feed 34 = .ok (.iload_n 3, 1) := by decide +kernel
theorem dX11_feed_35 : decode cX11_feed 35 = .ok (.invokevirtual 87, 3) := by decide +kernel
theorem dX11_feed_38 : decode cX11_feed 38 = .ok (.aload_n 0, 1) := by decide +kernel
theorem dX11_feed_39 : decode cX11_feed 39 = .ok (.getfield 24, 3) := by decide +kernel
theorem dX11_feed_42 : decode cX11_feed 42 = .ok (.iload 4, 2) := by decide +kernel
theorem dX11_feed_44 : decode cX11_feed 44 = .ok (.invokevirtual 87, 3) := by decide +kernel
theorem dX11_feed_47 : decode cX11_feed 47 = .ok (.aload_n 0, 1) := by decide +kernel
theorem dX11_feed_48 : decode cX11_feed 48 = .ok (.getfield 24, 3) := by decide +kernel
theorem dX11_feed_51 : decode cX11_feed 51 = .ok (.iload 5, 2) := by decide +kernel
theorem dX11_feed_53 : decode cX11_feed 53 = .ok (.invokevirtual 87, 3) := by decide +kernel
theorem dX11_feed_56 : decode cX11_feed 56 = .ok (.aload_n 0, 1) := by decide +kernel
theorem dX11_feed_57 : decode cX11_feed 57 = .ok (.getfield 24, 3) := by decide +kernel
theorem dX11_feed_60 : decode cX11_feed 60 = .ok (.getfield 91, 3) := by decide +kernel
theorem dX11_feed_63 : decode cX11_feed 63 = .ok (.ireturn, 1) := by decide +kernel
theorem dX11_end_0 : decode cX11_end 0 = .ok (.aload_n 0, 1) := by decide +kernel
theorem dX11_end_1 : decode cX11_end 1 = .ok (.getfield 24, 3) := by decide +kernel
theorem dX11_end_4 : decode cX11_end 4 = .ok (.iload_n 1, 1) := by decide +kernel
theorem dX11_end_5 : decode cX11_end 5 = .ok (.invokevirtual 95, 3) := by decide +kernel
theorem dX11_end_8 : decode cX11_end 8 = .ok (.ifCond .eq 7, 3) := by decide +kernel
theorem dX11_end_11 : decode cX11_end 11 = .ok (.iload_n 1, 1) := by decide +kernel
theorem dX11_end_12 : decode cX11_end 12 = .ok (.goto 4, 3) := by decide +kernel
theorem dX11_end_15 : decode cX11_end 15 = .ok (.iconst (-1), 1) := by decide +kernel
theorem dX11_end_16 : decode cX11_end 16 = .ok (.ireturn, 1) := by decide +kernel
theorem dX11_war_0 : decode cX11_war 0 = .ok (.aload_n 0, 1) := by decide +kernel
theorem dX11_war_1 : decode cX11_war 1 = .ok (.getfield 24, 3) := by decide +kernel
theorem dX11_war_4 : decode cX11_war 4 = .ok (.invokevirtual 98, 3) := by decide +kernel
theorem dX11_war_7 : decode cX11_war 7 = .ok (.aload_n 0, 1) := by decide +kernel
theorem dX11_war_8 : decode cX11_war 8 = .ok (.getfield 24, 3) := by decide +kernel
theorem dX11_war_11 : decode cX11_war 11 = .ok (.iconst 0, 1) := by decide +kernel
theorem dX11_war_12 : decode cX11_war 12 = .ok (.invokevirtual 95, 3) := by decide +kernel
theorem dX11_war_15 : decode cX11_war 15 = .ok (.pop, 1) := by decide +kernel
theorem dX11_war_16 : decode cX11_war 16 = .ok (.aload_n 0, 1) := by decide +kernel
theorem dX11_war_17 : decode cX11_war 17 = .ok (.getfield 24, 3) := by decide +kernel
theorem dX11_war_20 : decode cX11_war 20 = .ok (.getfield 101, 3) := by decide +kernel
theorem dX11_war_23 : decode cX11_war 23 = .ok (.ifCond .eq 6, 3) := by decide +kernel
theorem dX11_war_26 : decode cX11_war 26 = .ok (.bipush (-4), 2) := by decide +kernel
theorem dX11_war_28 : decode cX11_war 28 = .ok (.ireturn, 1) := by decide +kernel
theorem dX11_war_29 : decode cX11_war 29 = .ok (.aload_n 0, 1) := by decide +kernel
theorem dX11_war_30 : decode cX11_war 30 = .ok (.getfield 10, 3) := by decide +kernel
theorem dX11_war_33 : decode cX11_war 33 = .ok (.aload_n 0, 1) := by decide +kernel
theorem dX11_war_34 : decode cX11_war 34 = .ok (.getfield 16, 3) := by decide +kernel
theorem dX11_war_37 : decode cX11_war 37 = .ok (.invokevirtual 104, 3) := by decide +kernel
theorem dX11_war_40 : decode cX11_war 40 = .ok (.aload_n 0, 1) := by decide +kernel
theorem dX11_war_41 : decode cX11_war 41 = .ok (.getfield 31, 3) := by decide +kernel
theorem dX11_war_44 : decode cX11_war 44 = .ok (.invokevirtual 107, 3) := by decide +kernel
theorem dX11_war_47 : decode cX11_war 47 = .ok (.aload_n 0, 1) := by decide +kernel
theorem dX11_war_48 : decode cX11_war 48 = .ok (.getfield 10, 3) := by decide +kernel
theorem dX11_war_51 : decode cX11_war 51 = .ok (.getfield 110, 3) := by decide +kernel
theorem dX11_war_54 : decode cX11_war 54 = .ok (.ireturn, 1) := by decide +kernel
theorem dX11_fault_0 : decode cX11_fault 0 = .ok (.iload_n 1, 1) := by decide +kernel
theorem dX11_fault_1 : decode cX11_fault 1 = .ok (.lookupswitch 43 #[(0, 27), (1, 35)], 27) := by decide +kernel
theorem dX11_fault_28 : decode cX11_fault 28 = .ok (.aload_n 0, 1) := by decide +kernel
theorem dX11_fault_29 : decode cX11_fault 29 = .ok (.getfield 24, 3) := by decide +kernel
theorem dX11_fault_32 : decode cX11_fault 32 = .ok (.getfield 101, 3) := by decide +kernel
theorem dX11_fault_35 : decode cX11_fault 35 = .ok (.ireturn, 1) := by decide +kernel
theorem dX11_fault_36 : decode cX11_fault 36 = .ok (.aload_n 0, 1) := by decide +kernel
theorem dX11_fault_37 : decode cX11_fault 37 = .ok (.getfield 24, 3) := by decide +kernel
theorem dX11_fault_40 : decode cX11_fault 40 = .ok (.getfield 113, 3) := by decide +kernel
theorem dX11_fault_43 : decode cX11_fault 43 = .ok (.ireturn, 1) := by decide +kernel
theorem dX11_fault_44 : decode cX11_fault 44 = .ok (.iconst (-1), 1) := by decide +kernel
theorem dX11_fault_45 : decode cX11_fault 45 = .ok (.ireturn, 1) := by decide +kernel
theorem dX11_train_0 : decode cX11_train 0 = .ok (.aload_n 0, 1) := by decide +kernel
theorem dX11_train_1 : decode cX11_train 1 = .ok (.getfield 10, 3) := by decide +kernel
theorem dX11_train_4 : decode cX11_train 4 = .ok (.getfield 116, 3) := by decide +kernel
theorem dX11_train_7 : decode cX11_train 7 = .ok (.iload_n 1, 1) := by decide +kernel
theorem dX11_train_8 : decode cX11_train 8 = .ok (.iload_n 2, 1) := by decide +kernel
theorem dX11_train_9 : decode cX11_train 9 = .ok (.invokevirtual 120, 3) := by decide +kernel
theorem dX11_train_12 : decode cX11_train 12 = .ok (.ireturn, 1) := by decide +kernel
theorem dX11_need_0 : decode cX11_need 0 = .ok (.aload_n 0, 1) := by decide +kernel
theorem dX11_need_1 : decode cX11_need 1 = .ok (.getfield 10, 3) := by decide +kernel
theorem dX11_need_4 : decode cX11_need 4 = .ok (.iload_n 1, 1) := by decide +kernel
theorem dX11_need_5 : decode cX11_need 5 = .ok (.invokevirtual 126, 3) := by decide +kernel
theorem dX11_need_8 : decode cX11_need 8 = .ok (.ifCond .eq 14, 3) := by decide +kernel
theorem dX11_need_11 : decode cX11_need 11 = .ok (.aload_n 0, 1) := by decide +kernel
theorem dX11_need_12 : decode cX11_need 12 = .ok (.getfield 10, 3) := by decide +kernel
theorem dX11_need_15 : decode cX11_need 15 = .ok (.iload_n 1, 1) := by decide +kernel
theorem dX11_need_16 : decode cX11_need 16 = .ok (.invokevirtual 129, 3) := by decide +kernel
theorem dX11_need_19 : decode cX11_need 19 = .ok (.goto 5, 3) := by decide +kernel
theorem dX11_need_22 : decode cX11_need 22 = .ok (.bipush (-2), 2) := by decide +kernel
theorem dX11_need_24 : decode cX11_need 24 = .ok (.ireturn, 1) := by decide +kernel
theorem dX11_tea_0 : decode cX11_tea 0 = .ok (.aload_n 0, 1) := by decide +kernel
theorem dX11_tea_1 : decode cX11_tea 1 = .ok (.getfield 10, 3) := by decide +kernel
theorem dX11_tea_4 : decode cX11_tea 4 = .ok (.invokevirtual 133, 3) := by decide +kernel
theorem dX11_tea_7 : decode cX11_tea 7 = .ok (.ifCond .eq 18, 3) := by decide +kernel
theorem dX11_tea_10 : decode cX11_tea 10 = .ok (.iload_n 1, 1) := by decide +kernel
theorem dX11_tea_11 : decode cX11_tea 11 = .ok (.ifCond .lt 14, 3) := by decide +kernel
theorem dX11_tea_14 : decode cX11_tea 14 = .ok (.iload_n 1, 1) := by decide +kernel
theorem dX11_tea_15 : decode cX11_tea 15 = .ok (.aload_n 0, 1) := by decide +kernel
theorem dX11_tea_16 : decode cX11_tea 16 = .ok (.getfield 10, 3) := by decide +kernel
theorem dX11_tea_19 : decode cX11_tea 19 = .ok (.getfield 137, 3) := by decide +kernel
theorem dX11_tea_22 : decode cX11_tea 22 = .ok (.if_icmp .lt 6, 3) := by decide +kernel
theorem dX11_tea_25 : decode cX11_tea 25 = .ok (.bipush (-2), 2) := by decide +kernel
theorem dX11_tea_27 : decode cX11_tea 27 = .ok (.ireturn, 1) := by decide +kernel
theorem dX11_tea_28 : decode cX11_tea 28 = .ok (.aload_n 0, 1) := by decide +kernel
theorem dX11_tea_29 : decode cX11_tea 29 = .ok (.getfield 10, 3) := by decide +kernel
theorem dX11_tea_32 : decode cX11_tea 32 = .ok (.iload_n 1, 1) := by decide +kernel
theorem dX11_tea_33 : decode cX11_tea 33 = .ok (.invokevirtual 140, 3) := by decide +kernel
theorem dX11_tea_36 : decode cX11_tea 36 = .ok (.ifCond .eq 7, 3) := by decide +kernel
theorem dX11_tea_39 : decode cX11_tea 39 = .ok (.iconst 1, 1) := by decide +kernel
theorem dX11_tea_40 : decode cX11_tea 40 = .ok (.goto 4, 3) := by decide +kernel
theorem dX11_tea_43 : decode cX11_tea 43 = .ok (.iconst 0, 1) := by decide +kernel
theorem dX11_tea_44 : decode cX11_tea 44 = .ok (.ireturn, 1) := by decide +kernel
theorem dX11_cannon_0 : decode cX11_cannon 0 = .ok (.aload_n 0, 1) := by decide +kernel
theorem dX11_cannon_1 : decode cX11_cannon 1 = .ok (.getfield 10, 3) := by decide +kernel
theorem dX11_cannon_4 : decode cX11_cannon 4 = .ok (.getfield 143, 3) := by decide +kernel
theorem dX11_cannon_7 : decode cX11_cannon 7 = .ok (.iload_n 1, 1) := by decide +kernel
theorem dX11_cannon_8 : decode cX11_cannon 8 = .ok (.iload_n 2, 1) := by decide +kernel
theorem dX11_cannon_9 : decode cX11_cannon 9 = .ok (.invokevirtual 120, 3) := by decide +kernel
theorem dX11_cannon_12 : decode cX11_cannon 12 = .ok (.ireturn, 1) := by decide +kernel
theorem dX11_rule_0 : decode cX11_rule 0 = .ok (.aload_n 0, 1) := by decide +kernel
theorem dX11_rule_1 : decode cX11_rule 1 = .ok (.getfield 10, 3) := by decide +kernel
theorem dX11_rule_4 : decode cX11_rule 4 = .ok (.getfield 146, 3) := by decide +kernel
theorem dX11_rule_7 : decode cX11_rule 7 = .ok (.iload_n 1, 1) := by decide +kernel
theorem dX11_rule_8 : decode cX11_rule 8 = .ok (.iload_n 2, 1) := by decide +kernel
theorem dX11_rule_9 : decode cX11_rule 9 = .ok (.invokevirtual 120, 3) := by decide +kernel
theorem dX11_rule_12 : decode cX11_rule 12 = .ok (.ireturn, 1) := by decide +kernel
theorem dX11_spy_0 : decode cX11_spy 0 = .ok (.aload_n 0, 1) := by decide +kernel
theorem dX11_spy_1 : decode cX11_spy 1 = .ok (.getfield 10, 3) := by decide +kernel
theorem dX11_spy_4 : decode cX11_spy 4 = .ok (.getfield 149, 3) := by decide +kernel
theorem dX11_spy_7 : decode cX11_spy 7 = .ok (.iload_n 1, 1) := by decide +kernel
theorem dX11_spy_8 : decode cX11_spy 8 = .ok (.iconst 0, 1) := by decide +kernel
theorem dX11_spy_9 : decode cX11_spy 9 = .ok (.invokevirtual 120, 3) := by decide +kernel
theorem dX11_spy_12 : decode cX11_spy 12 = .ok (.ireturn, 1) := by decide +kernel
theorem dX11_men_0 : decode cX11_men 0 = .ok (.aload_n 0, 1) := by decide +kernel
theorem dX11_men_1 : decode cX11_men 1 = .ok (.getfield 10, 3) := by decide +kernel
theorem dX11_men_4 : decode cX11_men 4 = .ok (.iload_n 1, 1) := by decide +kernel
theorem dX11_men_5 : decode cX11_men 5 = .ok (.invokevirtual 126, 3) := by decide +kernel
theorem dX11_men_8 : decode cX11_men 8 = .ok (.ifCond .eq 21, 3) := by decide +kernel
theorem dX11_men_11 : decode cX11_men 11 = .ok (.iload_n 2, 1) := by decide +kernel
theorem dX11_men_12 : decode cX11_men 12 = .ok (.invokestatic 152, 3) := by decide +kernel
theorem dX11_men_15 : decode cX11_men 15 = .ok (.ifCond .eq 14, 3) := by decide +kernel
theorem dX11_men_18 : decode cX11_men 18 = .ok (.aload_n 0, 1) := by decide +kernel
theorem dX11_men_19 : decode cX11_men 19 = .ok (.getfield 10, 3) := by decide +kernel
theorem dX11_men_22 : decode cX11_men 22 = .ok (.iload_n 3, 1) := by decide +kernel
theorem dX11_men_23 : decode cX11_men 23 = .ok (.invokevirtual 155, 3) := by decide +kernel
theorem dX11_men_26 : decode cX11_men 26 = .ok (.ifCond .ne 6, 3) := by decide +kernel
theorem dX11_men_29 : decode cX11_men 29 = .ok (.bipush (-2), 2) := by decide +kernel
theorem dX11_men_31 : decode cX11_men 31 = .ok (.ireturn, 1) := by decide +kernel
theorem dX11_men_32 : decode cX11_men 32 = .ok (.aload_n 0, 1) := by decide +kernel
theorem dX11_men_33 : decode cX11_men 33 = .ok (.getfield 10, 3) := by decide +kernel
theorem dX11_men_36 : decode cX11_men 36 = .ok (.iload_n 1, 1) := by decide +kernel
theorem dX11_men_37 : decode cX11_men 37 = .ok (.iload_n 2, 1) := by decide +kernel
theorem dX11_men_38 : decode cX11_men 38 = .ok (.iload_n 3, 1) := by decide +kernel
theorem dX11_men_39 : decode cX11_men 39 = .ok (.invokevirtual 158, 3) := by decide +kernel
theorem dX11_men_42 : decode cX11_men 42 = .ok (.ireturn, 1) := by decide +kernel
theorem dX11_front_0 : decode cX11_front 0 = .ok (.aload_n 0, 1) := by decide +kernel
theorem dX11_front_1 : decode cX11_front 1 = .ok (.getfield 10, 3) := by decide +kernel
theorem dX11_front_4 : decode cX11_front 4 = .ok (.iload_n 2, 1) := by decide +kernel
theorem dX11_front_5 : decode cX11_front 5 = .ok (.invokevirtual 155, 3) := by decide +kernel
theorem dX11_front_8 : decode cX11_front 8 = .ok (.ifCond .eq 18, 3) := by decide +kernel
theorem dX11_front_11 : decode cX11_front 11 = .ok (.iload_n 1, 1) := by decide +kernel
theorem dX11_front_12 : decode cX11_front 12 = .ok (.ifCond .lt 14, 3) := by decide +kernel
theorem dX11_front_15 : decode cX11_front 15 = .ok (.iload_n 1, 1) := by decide +kernel
theorem dX11_front_16 : decode cX11_front 16 = .ok (.aload_n 0, 1) := by decide +kernel
theorem dX11_front_17 : decode cX11_front 17 = .ok (.getfield 10, 3) := by decide +kernel
theorem dX11_front_20 : decode cX11_front 20 = .ok (.getfield 137, 3) := by decide +kernel
theorem dX11_front_23 : decode cX11_front 23 = .ok (.if_icmp .le 7, 3) := by decide +kernel
theorem dX11_front_26 : decode cX11_front 26 = .ok (.sipush (-1000), 3) := by decide +kernel
theorem dX11_front_29 : decode cX11_front 29 = .ok (.ireturn, 1) := by decide +kernel
theorem dX11_front_30 : decode cX11_front 30 = .ok (.aload_n 0, 1) := by decide +kernel
theorem dX11_front_31 : decode cX11_front 31 = .ok (.getfield 31, 3) := by decide +kernel
theorem dX11_front_34 : decode cX11_front 34 = .ok (.iload_n 2, 1) := by decide +kernel
theorem dX11_front_35 : decode cX11_front 35 = .ok (.invokevirtual 162, 3) := by decide +kernel
theorem dX11_front_38 : decode cX11_front 38 = .ok (.aload_n 0, 1) := by decide +kernel
theorem dX11_front_39 : decode cX11_front 39 = .ok (.getfield 31, 3) := by decide +kernel
theorem dX11_front_42 : decode cX11_front 42 = .ok (.iload_n 1, 1) := by decide +kernel
theorem dX11_front_43 : decode cX11_front 43 = .ok (.invokevirtual 165, 3) := by decide +kernel
theorem dX11_front_46 : decode cX11_front 46 = .ok (.ireturn, 1) := by decide +kernel
theorem dX11_late_0 : decode cX11_late 0 = .ok (.aload_n 0, 1) := by decide +kernel
theorem dX11_late_1 : decode cX11_late 1 = .ok (.getfield 10, 3) := by decide +kernel
theorem dX11_late_4 : decode cX11_late 4 = .ok (.iload_n 1, 1) := by decide +kernel
theorem dX11_late_5 : decode cX11_late 5 = .ok (.invokevirtual 155, 3) := by decide +kernel
theorem dX11_late_8 : decode cX11_late 8 = .ok (.ifCond .eq 14, 3) := by decide +kernel
theorem dX11_late_11 : decode cX11_late 11 = .ok (.aload_n 0, 1) := by decide +kernel
theorem dX11_late_12 : decode cX11_late 12 = .ok (.getfield 10, 3) := by decide +kernel
theorem dX11_late_15 : decode cX11_late 15 = .ok (.iload_n 1, 1) := by decide +kernel
theorem dX11_late_16 : decode cX11_late 16 = .ok (.invokevirtual 168, 3) := by decide +kernel
theorem dX11_late_19 : decode cX11_late 19 = .ok (.goto 5, 3) := by decide +kernel
theorem dX11_late_22 : decode cX11_late 22 = .ok (.bipush (-2), 2) := by decide +kernel
theorem dX11_late_24 : decode cX11_late 24 = .ok (.ireturn, 1) := by decide +kernel
theorem dX11_wins_0 : decode cX11_wins 0 = .ok (.aload_n 0, 1) := by decide +kernel
theorem dX11_wins_1 : decode cX11_wins 1 = .ok (.getfield 10, 3) := by decide +kernel
theorem dX11_wins_4 : decode cX11_wins 4 = .ok (.iload_n 1, 1) := by decide +kernel
theorem dX11_wins_5 : decode cX11_wins 5 = .ok (.invokevirtual 155, 3) := by decide +kernel
theorem dX11_wins_8 : decode cX11_wins 8 = .ok (.ifCond .eq 14, 3) := by decide +kernel
theorem dX11_wins_11 : decode cX11_wins 11 = .ok (.aload_n 0, 1) := by decide +kernel
theorem dX11_wins_12 : decode cX11_wins 12 = .ok (.getfield 31, 3) := by decide +kernel
theorem dX11_wins_15 : decode cX11_wins 15 = .ok (.iload_n 1, 1) := by decide +kernel
theorem dX11_wins_16 : decode cX11_wins 16 = .ok (.invokevirtual 171, 3) := by decide +kernel
theorem dX11_wins_19 : decode cX11_wins 19 = .ok (.goto 5, 3) := by decide +kernel
theorem dX11_wins_22 : decode cX11_wins 22 = .ok (.bipush (-2), 2) := by decide +kernel
theorem dX11_wins_24 : decode cX11_wins 24 = .ok (.ireturn, 1) := by decide +kernel
theorem dX11_peak_0 : decode cX11_peak 0 = .ok (.aload_n 0, 1) := by decide +kernel
theorem dX11_peak_1 : decode cX11_peak 1 = .ok (.getfield 10, 3) := by decide +kernel
theorem dX11_peak_4 : decode cX11_peak 4 = .ok (.iload_n 1, 1) := by decide +kernel
theorem dX11_peak_5 : decode cX11_peak 5 = .ok (.invokevirtual 126, 3) := by decide +kernel
theorem dX11_peak_8 : decode cX11_peak 8 = .ok (.ifCond .eq 14, 3) := by decide +kernel
theorem dX11_peak_11 : decode cX11_peak 11 = .ok (.aload_n 0, 1) := by decide +kernel
theorem dX11_peak_12 : decode cX11_peak 12 = .ok (.getfield 10, 3) := by decide +kernel
theorem dX11_peak_15 : decode cX11_peak 15 = .ok (.iload_n 2, 1) := by decide +kernel
theorem dX11_peak_16 : decode cX11_peak 16 = .ok (.invokevirtual 155, 3) := by decide +kernel
theorem dX11_peak_19 : decode cX11_peak 19 = .ok (.ifCond .ne 6, 3) := by decide +kernel
theorem dX11_peak_22 : decode cX11_peak 22 = .ok (.bipush (-2), 2) := by decide +kernel
theorem dX11_peak_24 : decode cX11_peak 24 = .ok (.ireturn, 1) := by decide +kernel
theorem dX11_peak_25 : decode cX11_peak 25 = .ok (.aload_n 0, 1) := by decide +kernel
theorem dX11_peak_26 : decode cX11_peak 26 = .ok (.getfield 31, 3) := by decide +kernel
theorem dX11_peak_29 : decode cX11_peak 29 = .ok (.iload_n 2, 1) := by decide +kernel
theorem dX11_peak_30 : decode cX11_peak 30 = .ok (.invokevirtual 162, 3) := by decide +kernel
theorem dX11_peak_33 : decode cX11_peak 33 = .ok (.aload_n 0, 1) := by decide +kernel
theorem dX11_peak_34 : decode cX11_peak 34 = .ok (.getfield 31, 3) := by decide +kernel
theorem dX11_peak_37 : decode cX11_peak 37 = .ok (.iload_n 1, 1) := by decide +kernel
theorem dX11_peak_38 : decode cX11_peak 38 = .ok (.invokevirtual 174, 3) := by decide +kernel
theorem dX11_peak_41 : decode cX11_peak 41 = .ok (.ireturn, 1) := by decide +kernel
theorem dX11_swings_0 : decode cX11_swings 0 = .ok (.aload_n 0, 1) := by decide +kernel
theorem dX11_swings_1 : decode cX11_swings 1 = .ok (.getfield 10, 3) := by decide +kernel
theorem dX11_swings_4 : decode cX11_swings 4 = .ok (.iload_n 1, 1) := by decide +kernel
theorem dX11_swings_5 : decode cX11_swings 5 = .ok (.invokevirtual 155, 3) := by decide +kernel
theorem dX11_swings_8 : decode cX11_swings 8 = .ok (.ifCond .ne 6, 3) := by decide +kernel
theorem dX11_swings_11 : decode cX11_swings 11 = .ok (.bipush (-2), 2) := by decide +kernel
theorem dX11_swings_13 : decode cX11_swings 13 = .ok (.ireturn, 1) := by decide +kernel
theorem dX11_swings_14 : decode cX11_swings 14 = .ok (.aload_n 0, 1) := by decide +kernel
theorem dX11_swings_15 : decode cX11_swings 15 = .ok (.getfield 31, 3) := by decide +kernel
theorem dX11_swings_18 : decode cX11_swings 18 = .ok (.iload_n 1, 1) := by decide +kernel
theorem dX11_swings_19 : decode cX11_swings 19 = .ok (.invokevirtual 162, 3) := by decide +kernel
theorem dX11_swings_22 : decode cX11_swings 22 = .ok (.aload_n 0, 1) := by decide +kernel
theorem dX11_swings_23 : decode cX11_swings 23 = .ok (.getfield 31, 3) := by decide +kernel
theorem dX11_swings_26 : decode cX11_swings 26 = .ok (.invokevirtual 177, 3) := by decide +kernel
theorem dX11_swings_29 : decode cX11_swings 29 = .ok (.ireturn, 1) := by decide +kernel
theorem dX11_worst_0 : decode cX11_worst 0 = .ok (.aload_n 0, 1) := by decide +kernel
theorem dX11_worst_1 : decode cX11_worst 1 = .ok (.getfield 10, 3) := by decide +kernel
theorem dX11_worst_4 : decode cX11_worst 4 = .ok (.iload_n 1, 1) := by decide +kernel
theorem dX11_worst_5 : decode cX11_worst 5 = .ok (.invokevirtual 126, 3) := by decide +kernel
theorem dX11_worst_8 : decode cX11_worst 8 = .ok (.ifCond .eq 22, 3) := by decide +kernel
theorem dX11_worst_11 : decode cX11_worst 11 = .ok (.aload_n 0, 1) := by decide +kernel
theorem dX11_worst_12 : decode cX11_worst 12 = .ok (.getfield 31, 3) := by decide +kernel
theorem dX11_worst_15 : decode cX11_worst 15 = .ok (.iload_n 1, 1) := by decide +kernel
theorem dX11_worst_16 : decode cX11_worst 16 = .ok (.aload_n 0, 1) := by decide +kernel
theorem dX11_worst_17 : decode cX11_worst 17 = .ok (.getfield 31, 3) := by decide +kernel
theorem dX11_worst_20 : decode cX11_worst 20 = .ok (.iload_n 1, 1) := by decide +kernel
theorem dX11_worst_21 : decode cX11_worst 21 = .ok (.invokevirtual 181, 3) := by decide +kernel
theorem dX11_worst_24 : decode cX11_worst 24 = .ok (.invokevirtual 184, 3) := by decide +kernel
theorem dX11_worst_27 : decode cX11_worst 27 = .ok (.goto 6, 3) := by decide +kernel
theorem dX11_worst_30 : decode cX11_worst 30 = .ok (.sipush (-1000), 3) := by decide +kernel
theorem dX11_worst_33 : decode cX11_worst 33 = .ok (.ireturn, 1) := by decide +kernel
theorem dX11_by_0 : decode cX11_by 0 = .ok (.aload_n 0, 1) := by decide +kernel
theorem dX11_by_1 : decode cX11_by 1 = .ok (.getfield 10, 3) := by decide +kernel
theorem dX11_by_4 : decode cX11_by 4 = .ok (.iload_n 1, 1) := by decide +kernel
theorem dX11_by_5 : decode cX11_by 5 = .ok (.invokevirtual 126, 3) := by decide +kernel
theorem dX11_by_8 : decode cX11_by 8 = .ok (.ifCond .eq 14, 3) := by decide +kernel
theorem dX11_by_11 : decode cX11_by 11 = .ok (.aload_n 0, 1) := by decide +kernel
theorem dX11_by_12 : decode cX11_by 12 = .ok (.getfield 31, 3) := by decide +kernel
theorem dX11_by_15 : decode cX11_by 15 = .ok (.iload_n 1, 1) := by decide +kernel
theorem dX11_by_16 : decode cX11_by 16 = .ok (.invokevirtual 181, 3) := by decide +kernel
theorem dX11_by_19 : decode cX11_by 19 = .ok (.goto 5, 3) := by decide +kernel
theorem dX11_by_22 : decode cX11_by 22 = .ok (.bipush (-2), 2) := by decide +kernel
theorem dX11_by_24 : decode cX11_by 24 = .ok (.ireturn, 1) := by decide +kernel
theorem dX11_ways_0 : decode cX11_ways 0 = .ok (.aload_n 0, 1) := by decide +kernel
theorem dX11_ways_1 : decode cX11_ways 1 = .ok (.getfield 10, 3) := by decide +kernel
theorem dX11_ways_4 : decode cX11_ways 4 = .ok (.iload_n 1, 1) := by decide +kernel
theorem dX11_ways_5 : decode cX11_ways 5 = .ok (.invokevirtual 126, 3) := by decide +kernel
theorem dX11_ways_8 : decode cX11_ways 8 = .ok (.ifCond .eq 14, 3) := by decide +kernel
theorem dX11_ways_11 : decode cX11_ways 11 = .ok (.aload_n 0, 1) := by decide +kernel
theorem dX11_ways_12 : decode cX11_ways 12 = .ok (.getfield 31, 3) := by decide +kernel
theorem dX11_ways_15 : decode cX11_ways 15 = .ok (.iload_n 1, 1) := by decide +kernel
theorem dX11_ways_16 : decode cX11_ways 16 = .ok (.invokevirtual 187, 3) := by decide +kernel
theorem dX11_ways_19 : decode cX11_ways 19 = .ok (.goto 5, 3) := by decide +kernel
theorem dX11_ways_22 : decode cX11_ways 22 = .ok (.bipush (-2), 2) := by decide +kernel
theorem dX11_ways_24 : decode cX11_ways 24 = .ok (.ireturn, 1) := by decide +kernel
theorem dX11_idle_0 : decode cX11_idle 0 = .ok (.aload_n 0, 1) := by decide +kernel
theorem dX11_idle_1 : decode cX11_idle 1 = .ok (.getfield 10, 3) := by decide +kernel
theorem dX11_idle_4 : decode cX11_idle 4 = .ok (.invokevirtual 133, 3) := by decide +kernel
theorem dX11_idle_7 : decode cX11_idle 7 = .ok (.ifCond .eq 13, 3) := by decide +kernel
theorem dX11_idle_10 : decode cX11_idle 10 = .ok (.aload_n 0, 1) := by decide +kernel
theorem dX11_idle_11 : decode cX11_idle 11 = .ok (.getfield 31, 3) := by decide +kernel
theorem dX11_idle_14 : decode cX11_idle 14 = .ok (.invokevirtual 190, 3) := by decide +kernel
theorem dX11_idle_17 : decode cX11_idle 17 = .ok (.goto 5, 3) := by decide +kernel
theorem dX11_idle_20 : decode cX11_idle 20 = .ok (.bipush (-2), 2) := by decide +kernel
theorem dX11_idle_22 : decode cX11_idle 22 = .ok (.ireturn, 1) := by decide +kernel
theorem dX11_enough_0 : decode cX11_enough 0 = .ok (.aload_n 0, 1) := by decide +kernel
theorem dX11_enough_1 : decode cX11_enough 1 = .ok (.getfield 10, 3) := by decide +kernel
theorem dX11_enough_4 : decode cX11_enough 4 = .ok (.iload_n 1, 1) := by decide +kernel
theorem dX11_enough_5 : decode cX11_enough 5 = .ok (.invokevirtual 126, 3) := by decide +kernel
theorem dX11_enough_8 : decode cX11_enough 8 = .ok (.ifCond .eq 10, 3) := by decide +kernel
theorem dX11_enough_11 : decode cX11_enough 11 = .ok (.iload_n 2, 1) := by decide +kernel
theorem dX11_enough_12 : decode cX11_enough 12 = .ok (.invokestatic 193, 3) := by decide +kernel
theorem dX11_enough_15 : decode cX11_enough 15 = .ok (.ifCond .ne 7, 3) := by decide +kernel
theorem dX11_enough_18 : decode cX11_enough 18 = .ok (.ldc2_w 196, 3) := by decide +kernel
theorem dX11_enough_21 : decode cX11_enough 21 = .ok (.lreturn, 1) := by decide +kernel
theorem dX11_enough_22 : decode cX11_enough 22 = .ok (.aload_n 0, 1) := by decide +kernel
theorem dX11_enough_23 : decode cX11_enough 23 = .ok (.getfield 40, 3) := by decide +kernel
theorem dX11_enough_26 : decode cX11_enough 26 = .ok (.iload_n 1, 1) := by decide +kernel
theorem dX11_enough_27 : decode cX11_enough 27 = .ok (.invokevirtual 198, 3) := by decide +kernel
theorem dX11_enough_30 : decode cX11_enough 30 = .ok (.aload_n 0, 1) := by decide +kernel
theorem dX11_enough_31 : decode cX11_enough 31 = .ok (.getfield 10, 3) := by decide +kernel
theorem dX11_enough_34 : decode cX11_enough 34 = .ok (.iload_n 1, 1) := by decide +kernel
theorem dX11_enough_35 : decode cX11_enough 35 = .ok (.invokevirtual 202, 3) := by decide +kernel
theorem dX11_enough_38 : decode cX11_enough 38 = .ok (.invokestatic 205, 3) := by decide +kernel
theorem dX11_enough_41 : decode cX11_enough 41 = .ok (.invokestatic 210, 3) := by decide +kernel
theorem dX11_enough_44 : decode cX11_enough 44 = .ok (.iload_n 2, 1) := by decide +kernel
theorem dX11_enough_45 : decode cX11_enough 45 = .ok (.invokestatic 215, 3) := by decide +kernel
theorem dX11_enough_48 : decode cX11_enough 48 = .ok (.lreturn, 1) := by decide +kernel
theorem dX11_chance_0 : decode cX11_chance 0 = .ok (.aload_n 0, 1) := by decide +kernel
theorem dX11_chance_1 : decode cX11_chance 1 = .ok (.getfield 10, 3) := by decide +kernel
theorem dX11_chance_4 : decode cX11_chance 4 = .ok (.iload_n 1, 1) := by decide +kernel
theorem dX11_chance_5 : decode cX11_chance 5 = .ok (.invokevirtual 126, 3) := by decide +kernel
theorem dX11_chance_8 : decode cX11_chance 8 = .ok (.ifCond .eq 10, 3) := by decide +kernel
theorem dX11_chance_11 : decode cX11_chance 11 = .ok (.iload_n 2, 1) := by decide +kernel
theorem dX11_chance_12 : decode cX11_chance 12 = .ok (.invokestatic 193, 3) := by decide +kernel
theorem dX11_chance_15 : decode cX11_chance 15 = .ok (.ifCond .ne 7, 3) := by decide +kernel
theorem dX11_chance_18 : decode cX11_chance 18 = .ok (.ldc2_w 196, 3) := by decide +kernel
theorem dX11_chance_21 : decode cX11_chance 21 = .ok (.lreturn, 1) := by decide +kernel
theorem dX11_chance_22 : decode cX11_chance 22 = .ok (.aload_n 0, 1) := by decide +kernel
theorem dX11_chance_23 : decode cX11_chance 23 = .ok (.getfield 31, 3) := by decide +kernel
theorem dX11_chance_26 : decode cX11_chance 26 = .ok (.iload_n 1, 1) := by decide +kernel
theorem dX11_chance_27 : decode cX11_chance 27 = .ok (.invokevirtual 219, 3) := by decide +kernel
theorem dX11_chance_30 : decode cX11_chance 30 = .ok (.aload_n 0, 1) := by decide +kernel
theorem dX11_chance_31 : decode cX11_chance 31 = .ok (.getfield 10, 3) := by decide +kernel
theorem dX11_chance_34 : decode cX11_chance 34 = .ok (.getfield 116, 3) := by decide +kernel
theorem dX11_chance_37 : decode cX11_chance 37 = .ok (.getfield 222, 3) := by decide +kernel
theorem dX11_chance_40 : decode cX11_chance 40 = .ok (.invokestatic 210, 3) := by decide +kernel
theorem dX11_chance_43 : decode cX11_chance 43 = .ok (.iload_n 2, 1) := by decide +kernel
theorem dX11_chance_44 : decode cX11_chance 44 = .ok (.invokestatic 215, 3) := by decide +kernel
theorem dX11_chance_47 : decode cX11_chance 47 = .ok (.lreturn, 1) := by decide +kernel
theorem dX11_send_0 : decode cX11_send 0 = .ok (.aload_n 0, 1) := by decide +kernel
theorem dX11_send_1 : decode cX11_send 1 = .ok (.getfield 10, 3) := by decide +kernel
theorem dX11_send_4 : decode cX11_send 4 = .ok (.iload_n 1, 1) := by decide +kernel
theorem dX11_send_5 : decode cX11_send 5 = .ok (.invokevirtual 126, 3) := by decide +kernel
theorem dX11_send_8 : decode cX11_send 8 = .ok (.ifCond .eq 21, 3) := by decide +kernel
theorem dX11_send_11 : decode cX11_send 11 = .ok (.aload_n 0, 1) := by decide +kernel
theorem dX11_send_12 : decode cX11_send 12 = .ok (.getfield 10, 3) := by decide +kernel
theorem dX11_send_15 : decode cX11_send 15 = .ok (.aload_n 0, 1) := by decide +kernel
theorem dX11_send_16 : decode cX11_send 16 = .ok (.getfield 40, 3) := by decide +kernel
theorem dX11_send_19 : decode cX11_send 19 = .ok (.iload_n 1, 1) := by decide +kernel
theorem dX11_send_20 : decode cX11_send 20 = .ok (.invokevirtual 225, 3) := by decide +kernel
theorem dX11_send_23 : decode cX11_send 23 = .ok (.invokevirtual 228, 3) := by decide +kernel
theorem dX11_send_26 : decode cX11_send 26 = .ok (.goto 5, 3) := by decide +kernel
theorem dX11_send_29 : decode cX11_send 29 = .ok (.bipush (-2), 2) := by decide +kernel
theorem dX11_send_31 : decode cX11_send 31 = .ok (.ireturn, 1) := by decide +kernel
theorem dX11_sent_0 : decode cX11_sent 0 = .ok (.aload_n 0, 1) := by decide +kernel
theorem dX11_sent_1 : decode cX11_sent 1 = .ok (.getfield 10, 3) := by decide +kernel
theorem dX11_sent_4 : decode cX11_sent 4 = .ok (.iload_n 1, 1) := by decide +kernel
theorem dX11_sent_5 : decode cX11_sent 5 = .ok (.invokevirtual 126, 3) := by decide +kernel
theorem dX11_sent_8 : decode cX11_sent 8 = .ok (.ifCond .eq 14, 3) := by decide +kernel
theorem dX11_sent_11 : decode cX11_sent 11 = .ok (.aload_n 0, 1) := by decide +kernel
theorem dX11_sent_12 : decode cX11_sent 12 = .ok (.getfield 40, 3) := by decide +kernel
theorem dX11_sent_15 : decode cX11_sent 15 = .ok (.iload_n 1, 1) := by decide +kernel
theorem dX11_sent_16 : decode cX11_sent 16 = .ok (.invokevirtual 225, 3) := by decide +kernel
theorem dX11_sent_19 : decode cX11_sent 19 = .ok (.goto 5, 3) := by decide +kernel
theorem dX11_sent_22 : decode cX11_sent 22 = .ok (.bipush (-2), 2) := by decide +kernel
theorem dX11_sent_24 : decode cX11_sent 24 = .ok (.ireturn, 1) := by decide +kernel
theorem dX11_fewest_0 : decode cX11_fewest 0 = .ok (.aload_n 0, 1) := by decide +kernel
theorem dX11_fewest_1 : decode cX11_fewest 1 = .ok (.getfield 10, 3) := by decide +kernel
theorem dX11_fewest_4 : decode cX11_fewest 4 = .ok (.iload_n 1, 1) := by decide +kernel
theorem dX11_fewest_5 : decode cX11_fewest 5 = .ok (.invokevirtual 126, 3) := by decide +kernel
theorem dX11_fewest_8 : decode cX11_fewest 8 = .ok (.ifCond .eq 14, 3) := by decide +kernel
theorem dX11_fewest_11 : decode cX11_fewest 11 = .ok (.aload_n 0, 1) := by decide +kernel
theorem dX11_fewest_12 : decode cX11_fewest 12 = .ok (.getfield 40, 3) := by decide +kernel
theorem dX11_fewest_15 : decode cX11_fewest 15 = .ok (.iload_n 1, 1) := by decide +kernel
theorem dX11_fewest_16 : decode cX11_fewest 16 = .ok (.invokevirtual 231, 3) := by decide +kernel
theorem dX11_fewest_19 : decode cX11_fewest 19 = .ok (.goto 5, 3) := by decide +kernel
theorem dX11_fewest_22 : decode cX11_fewest 22 = .ok (.bipush (-2), 2) := by decide +kernel
theorem dX11_fewest_24 : decode cX11_fewest 24 = .ok (.ireturn, 1) := by decide +kernel
theorem dX11_risk_0 : decode cX11_risk 0 = .ok (.aload_n 0, 1) := by decide +kernel
theorem dX11_risk_1 : decode cX11_risk 1 = .ok (.iload_n 1, 1) := by decide +kernel
theorem dX11_risk_2 : decode cX11_risk 2 = .ok (.iload_n 2, 1) := by decide +kernel
theorem dX11_risk_3 : decode cX11_risk 3 = .ok (.invokevirtual 234, 3) := by decide +kernel
theorem dX11_risk_6 : decode cX11_risk 6 = .ok (.ifCond .eq 22, 3) := by decide +kernel
theorem dX11_risk_9 : decode cX11_risk 9 = .ok (.aload_n 0, 1) := by decide +kernel
theorem dX11_risk_10 : decode cX11_risk 10 = .ok (.getfield 10, 3) := by decide +kernel
theorem dX11_risk_13 : decode cX11_risk 13 = .ok (.aload_n 0, 1) := by decide +kernel
theorem dX11_risk_14 : decode cX11_risk 14 = .ok (.getfield 40, 3) := by decide +kernel
theorem dX11_risk_17 : decode cX11_risk 17 = .ok (.iload_n 1, 1) := by decide +kernel
theorem dX11_risk_18 : decode cX11_risk 18 = .ok (.iload_n 2, 1) := by decide +kernel
theorem dX11_risk_19 : decode cX11_risk 19 = .ok (.invokevirtual 238, 3) := by decide +kernel
theorem dX11_risk_22 : decode cX11_risk 22 = .ok (.invokevirtual 228, 3) := by decide +kernel
theorem dX11_risk_25 : decode cX11_risk 25 = .ok (.goto 5, 3) := by decide +kernel
theorem dX11_risk_28 : decode cX11_risk 28 = .ok (.bipush (-2), 2) := by decide +kernel
theorem dX11_risk_30 : decode cX11_risk 30 = .ok (.ireturn, 1) := by decide +kernel
theorem dX11_risked_0 : decode cX11_risked 0 = .ok (.aload_n 0, 1) := by decide +kernel
theorem dX11_risked_1 : decode cX11_risked 1 = .ok (.iload_n 1, 1) := by decide +kernel
theorem dX11_risked_2 : decode cX11_risked 2 = .ok (.iload_n 2, 1) := by decide +kernel
theorem dX11_risked_3 : decode cX11_risked 3 = .ok (.invokevirtual 234, 3) := by decide +kernel
theorem dX11_risked_6 : decode cX11_risked 6 = .ok (.ifCond .eq 15, 3) := by decide +kernel
theorem dX11_risked_9 : decode cX11_risked 9 = .ok (.aload_n 0, 1) := by decide +kernel
theorem dX11_risked_10 : decode cX11_risked 10 = .ok (.getfield 40, 3) := by decide +kernel
theorem dX11_risked_13 : decode cX11_risked 13 = .ok (.iload_n 1, 1) := by decide +kernel
theorem dX11_risked_14 : decode cX11_risked 14 = .ok (.iload_n 2, 1) := by decide +kernel
theorem dX11_risked_15 : decode cX11_risked 15 = .ok (.invokevirtual 238, 3) := by decide +kernel
theorem dX11_risked_18 : decode cX11_risked 18 = .ok (.goto 5, 3) := by decide +kernel
theorem dX11_risked_21 : decode cX11_risked 21 = .ok (.bipush (-2), 2) := by decide +kernel
theorem dX11_risked_23 : decode cX11_risked 23 = .ok (.ireturn, 1) := by decide +kernel
theorem dX11_bribe_0 : decode cX11_bribe 0 = .ok (.aload_n 0, 1) := by decide +kernel
theorem dX11_bribe_1 : decode cX11_bribe 1 = .ok (.getfield 10, 3) := by decide +kernel
theorem dX11_bribe_4 : decode cX11_bribe 4 = .ok (.iload_n 1, 1) := by decide +kernel
theorem dX11_bribe_5 : decode cX11_bribe 5 = .ok (.invokevirtual 126, 3) := by decide +kernel
theorem dX11_bribe_8 : decode cX11_bribe 8 = .ok (.ifCond .eq 22, 3) := by decide +kernel
theorem dX11_bribe_11 : decode cX11_bribe 11 = .ok (.aload_n 0, 1) := by decide +kernel
theorem dX11_bribe_12 : decode cX11_bribe 12 = .ok (.getfield 10, 3) := by decide +kernel
theorem dX11_bribe_15 : decode cX11_bribe 15 = .ok (.aload_n 0, 1) := by decide +kernel
theorem dX11_bribe_16 : decode cX11_bribe 16 = .ok (.getfield 40, 3) := by decide +kernel
theorem dX11_bribe_19 : decode cX11_bribe 19 = .ok (.iload_n 1, 1) := by decide +kernel
theorem dX11_bribe_20 : decode cX11_bribe 20 = .ok (.iconst (-1), 1) := by decide +kernel
theorem dX11_bribe_21 : decode cX11_bribe 21 = .ok (.invokevirtual 241, 3) := by decide +kernel
theorem dX11_bribe_24 : decode cX11_bribe 24 = .ok (.invokevirtual 228, 3) := by decide +kernel
theorem dX11_bribe_27 : decode cX11_bribe 27 = .ok (.goto 5, 3) := by decide +kernel
theorem dX11_bribe_30 : decode cX11_bribe 30 = .ok (.bipush (-2), 2) := by decide +kernel
theorem dX11_bribe_32 : decode cX11_bribe 32 = .ok (.ireturn, 1) := by decide +kernel
theorem dX11_bribed_0 : decode cX11_bribed 0 = .ok (.aload_n 0, 1) := by decide +kernel
theorem dX11_bribed_1 : decode cX11_bribed 1 = .ok (.getfield 10, 3) := by decide +kernel
theorem dX11_bribed_4 : decode cX11_bribed 4 = .ok (.iload_n 1, 1) := by decide +kernel
theorem dX11_bribed_5 : decode cX11_bribed 5 = .ok (.invokevirtual 126, 3) := by decide +kernel
theorem dX11_bribed_8 : decode cX11_bribed 8 = .ok (.ifCond .eq 15, 3) := by decide +kernel
theorem dX11_bribed_11 : decode cX11_bribed 11 = .ok (.aload_n 0, 1) := by decide +kernel
theorem dX11_bribed_12 : decode cX11_bribed 12 = .ok (.getfield 40, 3) := by decide +kernel
theorem dX11_bribed_15 : decode cX11_bribed 15 = .ok (.iload_n 1, 1) := by decide +kernel
theorem dX11_bribed_16 : decode cX11_bribed 16 = .ok (.iconst (-1), 1) := by decide +kernel
theorem dX11_bribed_17 : decode cX11_bribed 17 = .ok (.invokevirtual 241, 3) := by decide +kernel
theorem dX11_bribed_20 : decode cX11_bribed 20 = .ok (.goto 5, 3) := by decide +kernel
theorem dX11_bribed_23 : decode cX11_bribed 23 = .ok (.bipush (-2), 2) := by decide +kernel
theorem dX11_bribed_25 : decode cX11_bribed 25 = .ok (.ireturn, 1) := by decide +kernel
theorem dX11_guard_0 : decode cX11_guard 0 = .ok (.aload_n 0, 1) := by decide +kernel
theorem dX11_guard_1 : decode cX11_guard 1 = .ok (.getfield 10, 3) := by decide +kernel
theorem dX11_guard_4 : decode cX11_guard 4 = .ok (.iload_n 1, 1) := by decide +kernel
theorem dX11_guard_5 : decode cX11_guard 5 = .ok (.invokevirtual 126, 3) := by decide +kernel
theorem dX11_guard_8 : decode cX11_guard 8 = .ok (.ifCond .eq 14, 3) := by decide +kernel
theorem dX11_guard_11 : decode cX11_guard 11 = .ok (.aload_n 0, 1) := by decide +kernel
theorem dX11_guard_12 : decode cX11_guard 12 = .ok (.getfield 40, 3) := by decide +kernel
theorem dX11_guard_15 : decode cX11_guard 15 = .ok (.iload_n 1, 1) := by decide +kernel
theorem dX11_guard_16 : decode cX11_guard 16 = .ok (.invokevirtual 244, 3) := by decide +kernel
theorem dX11_guard_19 : decode cX11_guard 19 = .ok (.goto 5, 3) := by decide +kernel
theorem dX11_guard_22 : decode cX11_guard 22 = .ok (.bipush (-2), 2) := by decide +kernel
theorem dX11_guard_24 : decode cX11_guard 24 = .ok (.ireturn, 1) := by decide +kernel
theorem dX11_guarded_0 : decode cX11_guarded 0 = .ok (.aload_n 0, 1) := by decide +kernel
theorem dX11_guarded_1 : decode cX11_guarded 1 = .ok (.getfield 10, 3) := by decide +kernel
theorem dX11_guarded_4 : decode cX11_guarded 4 = .ok (.iload_n 1, 1) := by decide +kernel
theorem dX11_guarded_5 : decode cX11_guarded 5 = .ok (.invokevirtual 126, 3) := by decide +kernel
theorem dX11_guarded_8 : decode cX11_guarded 8 = .ok (.ifCond .eq 14, 3) := by decide +kernel
theorem dX11_guarded_11 : decode cX11_guarded 11 = .ok (.aload_n 0, 1) := by decide +kernel
theorem dX11_guarded_12 : decode cX11_guarded 12 = .ok (.getfield 40, 3) := by decide +kernel
theorem dX11_guarded_15 : decode cX11_guarded 15 = .ok (.iload_n 1, 1) := by decide +kernel
theorem dX11_guarded_16 : decode cX11_guarded 16 = .ok (.invokevirtual 244, 3) := by decide +kernel
theorem dX11_guarded_19 : decode cX11_guarded 19 = .ok (.goto 4, 3) := by decide +kernel
theorem dX11_guarded_22 : decode cX11_guarded 22 = .ok (.iconst (-1), 1) := by decide +kernel
theorem dX11_guarded_23 : decode cX11_guarded 23 = .ok (.istore_n 2, 1) := by decide +kernel
theorem dX11_guarded_24 : decode cX11_guarded 24 = .ok (.iload_n 2, 1) := by decide +kernel
theorem dX11_guarded_25 : decode cX11_guarded 25 = .ok (.iconst (-1), 1) := by decide +kernel
theorem dX11_guarded_26 : decode cX11_guarded 26 = .ok (.if_icmp .ne 8, 3) := by decide +kernel
theorem dX11_guarded_29 : decode cX11_guarded 29 = .ok (.bipush (-2), 2) := by decide +kernel
theorem dX11_guarded_31 : decode cX11_guarded 31 = .ok (.goto 19, 3) := by decide +kernel
theorem dX11_guarded_34 : decode cX11_guarded 34 = .ok (.aload_n 0, 1) := by decide +kernel
theorem dX11_guarded_35 : decode cX11_guarded 35 = .ok (.getfield 10, 3) := by decide +kernel
theorem dX11_guarded_38 : decode cX11_guarded 38 = .ok (.aload_n 0, 1) := by decide +kernel
theorem dX11_guarded_39 : decode cX11_guarded 39 = .ok (.getfield 40, 3) := by decide +kernel
theorem dX11_guarded_42 : decode cX11_guarded 42 = .ok (.iload_n 1, 1) := by decide +kernel
theorem dX11_guarded_43 : decode cX11_guarded 43 = .ok (.iload_n 2, 1) := by decide +kernel
theorem dX11_guarded_44 : decode cX11_guarded 44 = .ok (.invokevirtual 241, 3) := by decide +kernel
theorem dX11_guarded_47 : decode cX11_guarded 47 = .ok (.invokevirtual 228, 3) := by decide +kernel
theorem dX11_guarded_50 : decode cX11_guarded 50 = .ok (.ireturn, 1) := by decide +kernel
theorem dX11_spoil_0 : decode cX11_spoil 0 = .ok (.aload_n 0, 1) := by decide +kernel
theorem dX11_spoil_1 : decode cX11_spoil 1 = .ok (.iload_n 1, 1) := by decide +kernel
theorem dX11_spoil_2 : decode cX11_spoil 2 = .ok (.iload_n 2, 1) := by decide +kernel
theorem dX11_spoil_3 : decode cX11_spoil 3 = .ok (.invokevirtual 247, 3) := by decide +kernel
theorem dX11_spoil_6 : decode cX11_spoil 6 = .ok (.ifCond .eq 23, 3) := by decide +kernel
theorem dX11_spoil_9 : decode cX11_spoil 9 = .ok (.aload_n 0, 1) := by decide +kernel
theorem dX11_spoil_10 : decode cX11_spoil 10 = .ok (.getfield 31, 3) := by decide +kernel
theorem dX11_spoil_13 : decode cX11_spoil 13 = .ok (.iload_n 1, 1) := by decide +kernel
theorem dX11_spoil_14 : decode cX11_spoil 14 = .ok (.aload_n 0, 1) := by decide +kernel
theorem dX11_spoil_15 : decode cX11_spoil 15 = .ok (.getfield 40, 3) := by decide +kernel
theorem dX11_spoil_18 : decode cX11_spoil 18 = .ok (.iload_n 1, 1) := by decide +kernel
theorem dX11_spoil_19 : decode cX11_spoil 19 = .ok (.iload_n 2, 1) := by decide +kernel
theorem dX11_spoil_20 : decode cX11_spoil 20 = .ok (.invokevirtual 250, 3) := by decide +kernel
theorem dX11_spoil_23 : decode cX11_spoil 23 = .ok (.invokevirtual 184, 3) := by decide +kernel
theorem dX11_spoil_26 : decode cX11_spoil 26 = .ok (.goto 6, 3) := by decide +kernel
theorem dX11_spoil_29 : decode cX11_spoil 29 = .ok (.sipush (-1000), 3) := by decide +kernel
theorem dX11_spoil_32 : decode cX11_spoil 32 = .ok (.ireturn, 1) := by decide +kernel
theorem dX11_spoils_0 : decode cX11_spoils 0 = .ok (.aload_n 0, 1) := by decide +kernel
theorem dX11_spoils_1 : decode cX11_spoils 1 = .ok (.iload_n 1, 1) := by decide +kernel
theorem dX11_spoils_2 : decode cX11_spoils 2 = .ok (.iload_n 2, 1) := by decide +kernel
theorem dX11_spoils_3 : decode cX11_spoils 3 = .ok (.invokevirtual 247, 3) := by decide +kernel
theorem dX11_spoils_6 : decode cX11_spoils 6 = .ok (.ifCond .eq 15, 3) := by decide +kernel
theorem dX11_spoils_9 : decode cX11_spoils 9 = .ok (.aload_n 0, 1) := by decide +kernel
theorem dX11_spoils_10 : decode cX11_spoils 10 = .ok (.getfield 40, 3) := by decide +kernel
theorem dX11_spoils_13 : decode cX11_spoils 13 = .ok (.iload_n 1, 1) := by decide +kernel
theorem dX11_spoils_14 : decode cX11_spoils 14 = .ok (.iload_n 2, 1) := by decide +kernel
theorem dX11_spoils_15 : decode cX11_spoils 15 = .ok (.invokevirtual 250, 3) := by decide +kernel
theorem dX11_spoils_18 : decode cX11_spoils 18 = .ok (.goto 5, 3) := by decide +kernel
theorem dX11_spoils_21 : decode cX11_spoils 21 = .ok (.bipush (-2), 2) := by decide +kernel
theorem dX11_spoils_23 : decode cX11_spoils 23 = .ok (.ireturn, 1) := by decide +kernel
theorem dX11_answer_0 : decode cX11_answer 0 = .ok (.aload_n 0, 1) := by decide +kernel
theorem dX11_answer_1 : decode cX11_answer 1 = .ok (.iload_n 1, 1) := by decide +kernel
theorem dX11_answer_2 : decode cX11_answer 2 = .ok (.iload_n 2, 1) := by decide +kernel
theorem dX11_answer_3 : decode cX11_answer 3 = .ok (.invokevirtual 247, 3) := by decide +kernel
theorem dX11_answer_6 : decode cX11_answer 6 = .ok (.ifCond .eq 15, 3) := by decide +kernel
theorem dX11_answer_9 : decode cX11_answer 9 = .ok (.aload_n 0, 1) := by decide +kernel
theorem dX11_answer_10 : decode cX11_answer 10 = .ok (.getfield 40, 3) := by decide +kernel
theorem dX11_answer_13 : decode cX11_answer 13 = .ok (.iload_n 1, 1) := by decide +kernel
theorem dX11_answer_14 : decode cX11_answer 14 = .ok (.iload_n 2, 1) := by decide +kernel
theorem dX11_answer_15 : decode cX11_answer 15 = .ok (.invokevirtual 253, 3) := by decide +kernel
theorem dX11_answer_18 : decode cX11_answer 18 = .ok (.goto 6, 3) := by decide +kernel
theorem dX11_answer_21 : decode cX11_answer 21 = .ok (.sipush (-1000), 3) := by decide +kernel
theorem dX11_answer_24 : decode cX11_answer 24 = .ok (.ireturn, 1) := by decide +kernel
theorem dX11_rests_0 : decode cX11_rests 0 = .ok (.aload_n 0, 1) := by decide +kernel
theorem dX11_rests_1 : decode cX11_rests 1 = .ok (.iconst 0, 1) := by decide +kernel
theorem dX11_rests_2 : decode cX11_rests 2 = .ok (.iload_n 1, 1) := by decide +kernel
theorem dX11_rests_3 : decode cX11_rests 3 = .ok (.invokevirtual 247, 3) := by decide +kernel
theorem dX11_rests_6 : decode cX11_rests 6 = .ok (.ifCond .eq 14, 3) := by decide +kernel
theorem dX11_rests_9 : decode cX11_rests 9 = .ok (.aload_n 0, 1) := by decide +kernel
theorem dX11_rests_10 : decode cX11_rests 10 = .ok (.getfield 40, 3) := by decide +kernel
theorem dX11_rests_13 : decode cX11_rests 13 = .ok (.iload_n 1, 1) := by decide +kernel
theorem dX11_rests_14 : decode cX11_rests 14 = .ok (.invokevirtual 256, 3) := by decide +kernel
theorem dX11_rests_17 : decode cX11_rests 17 = .ok (.goto 5, 3) := by decide +kernel
theorem dX11_rests_20 : decode cX11_rests 20 = .ok (.bipush (-2), 2) := by decide +kernel
theorem dX11_rests_22 : decode cX11_rests 22 = .ok (.ireturn, 1) := by decide +kernel
theorem dX11_since_0 : decode cX11_since 0 = .ok (.aload_n 0, 1) := by decide +kernel
theorem dX11_since_1 : decode cX11_since 1 = .ok (.getfield 10, 3) := by decide +kernel
theorem dX11_since_4 : decode cX11_since 4 = .ok (.iload_n 1, 1) := by decide +kernel
theorem dX11_since_5 : decode cX11_since 5 = .ok (.invokevirtual 126, 3) := by decide +kernel
theorem dX11_since_8 : decode cX11_since 8 = .ok (.ifCond .eq 14, 3) := by decide +kernel
theorem dX11_since_11 : decode cX11_since 11 = .ok (.aload_n 0, 1) := by decide +kernel
theorem dX11_since_12 : decode cX11_since 12 = .ok (.getfield 10, 3) := by decide +kernel
theorem dX11_since_15 : decode cX11_since 15 = .ok (.iload_n 2, 1) := by decide +kernel
theorem dX11_since_16 : decode cX11_since 16 = .ok (.invokevirtual 155, 3) := by decide +kernel
theorem dX11_since_19 : decode cX11_since 19 = .ok (.ifCond .ne 6, 3) := by decide +kernel
theorem dX11_since_22 : decode cX11_since 22 = .ok (.bipush (-2), 2) := by decide +kernel
theorem dX11_since_24 : decode cX11_since 24 = .ok (.ireturn, 1) := by decide +kernel
theorem dX11_since_25 : decode cX11_since 25 = .ok (.iconst 0, 1) := by decide +kernel
theorem dX11_since_26 : decode cX11_since 26 = .ok (.istore_n 3, 1) := by decide +kernel
theorem dX11_since_27 : decode cX11_since 27 = .ok (.iload_n 3, 1) := by decide +kernel
theorem dX11_since_28 : decode cX11_since 28 = .ok (.bipush 99, 2) := by decide +kernel
theorem dX11_since_30 : decode cX11_since 30 = .ok (.if_icmp .gt 32, 3) := by decide +kernel
theorem dX11_since_33 : decode cX11_since 33 = .ok (.aload_n 0, 1) := by decide +kernel
theorem dX11_since_34 : decode cX11_since 34 = .ok (.getfield 10, 3) := by decide +kernel
theorem dX11_since_37 : decode cX11_since 37 = .ok (.iload_n 1, 1) := by decide +kernel
theorem dX11_since_38 : decode cX11_since 38 = .ok (.iload_n 3, 1) := by decide +kernel
theorem dX11_since_39 : decode cX11_since 39 = .ok (.iload_n 2, 1) := by decide +kernel
theorem dX11_since_40 : decode cX11_since 40 = .ok (.invokevirtual 158, 3) := by decide +kernel
theorem dX11_since_43 : decode cX11_since 43 = .ok (.aload_n 0, 1) := by decide +kernel
theorem dX11_since_44 : decode cX11_since 44 = .ok (.getfield 10, 3) := by decide +kernel
theorem dX11_since_47 : decode cX11_since 47 = .ok (.iload_n 1, 1) := by decide +kernel
theorem dX11_since_48 : decode cX11_since 48 = .ok (.invokevirtual 129, 3) := by decide +kernel
theorem dX11_since_51 : decode cX11_since 51 = .ok (.if_icmp .lt 5, 3) := by decide +kernel
theorem dX11_since_54 : decode cX11_since 54 = .ok (.iload_n 3, 1) := by decide +kernel
theorem dX11_since_55 : decode cX11_since 55 = .ok (.ireturn, 1) := by decide +kernel
theorem dX11_since_56 : decode cX11_since 56 = .ok (.iinc 3 1, 3) := by decide +kernel
theorem dX11_since_59 : decode cX11_since 59 = .ok (.goto (-32), 3) := by decide +kernel
theorem dX11_since_62 : decode cX11_since 62 = .ok (.iconst (-1), 1) := by decide +kernel
theorem dX11_since_63 : decode cX11_since 63 = .ok (.ireturn, 1) := by decide +kernel
theorem dX11_comes_0 : decode cX11_comes 0 = .ok (.iload_n 1, 1) := by decide +kernel
theorem dX11_comes_1 : decode cX11_comes 1 = .ok (.invokestatic 152, 3) := by decide +kernel
theorem dX11_comes_4 : decode cX11_comes 4 = .ok (.ifCond .eq 14, 3) := by decide +kernel
theorem dX11_comes_7 : decode cX11_comes 7 = .ok (.aload_n 0, 1) := by decide +kernel
theorem dX11_comes_8 : decode cX11_comes 8 = .ok (.getfield 10, 3) := by decide +kernel
theorem dX11_comes_11 : decode cX11_comes 11 = .ok (.iload_n 2, 1) := by decide +kernel
theorem dX11_comes_12 : decode cX11_comes 12 = .ok (.invokevirtual 155, 3) := by decide +kernel
theorem dX11_comes_15 : decode cX11_comes 15 = .ok (.ifCond .ne 6, 3) := by decide +kernel
theorem dX11_comes_18 : decode cX11_comes 18 = .ok (.bipush (-2), 2) := by decide +kernel
theorem dX11_comes_20 : decode cX11_comes 20 = .ok (.ireturn, 1) := by decide +kernel
theorem dX11_comes_21 : decode cX11_comes 21 = .ok (.aload_n 0, 1) := by decide +kernel
theorem dX11_comes_22 : decode cX11_comes 22 = .ok (.getfield 10, 3) := by decide +kernel
theorem dX11_comes_25 : decode cX11_comes 25 = .ok (.iload_n 1, 1) := by decide +kernel
theorem dX11_comes_26 : decode cX11_comes 26 = .ok (.iload_n 2, 1) := by decide +kernel
theorem dX11_comes_27 : decode cX11_comes 27 = .ok (.invokevirtual 259, 3) := by decide +kernel
theorem dX11_comes_30 : decode cX11_comes 30 = .ok (.ireturn, 1) := by decide +kernel
theorem dX11_even_0 : decode cX11_even 0 = .ok (.aload_n 0, 1) := by decide +kernel
theorem dX11_even_1 : decode cX11_even 1 = .ok (.getfield 10, 3) := by decide +kernel
theorem dX11_even_4 : decode cX11_even 4 = .ok (.iload_n 1, 1) := by decide +kernel
theorem dX11_even_5 : decode cX11_even 5 = .ok (.invokevirtual 155, 3) := by decide +kernel
theorem dX11_even_8 : decode cX11_even 8 = .ok (.ifCond .ne 7, 3) := by decide +kernel
theorem dX11_even_11 : decode cX11_even 11 = .ok (.ldc2_w 196, 3) := by decide +kernel
theorem dX11_even_14 : decode cX11_even 14 = .ok (.lreturn, 1) := by decide +kernel
theorem dX11_even_15 : decode cX11_even 15 = .ok (.lconst 0, 1) := by decide +kernel
theorem dX11_even_16 : decode cX11_even 16 = .ok (.lstore_n 2, 1) := by decide +kernel
theorem dX11_even_17 : decode cX11_even 17 = .ok (.iconst 0, 1) := by decide +kernel
theorem dX11_even_18 : decode cX11_even 18 = .ok (.istore 4, 2) := by decide +kernel
theorem dX11_even_20 : decode cX11_even 20 = .ok (.iload 4, 2) := by decide +kernel
theorem dX11_even_22 : decode cX11_even 22 = .ok (.aload_n 0, 1) := by decide +kernel
theorem dX11_even_23 : decode cX11_even 23 = .ok (.getfield 10, 3) := by decide +kernel
theorem dX11_even_26 : decode cX11_even 26 = .ok (.getfield 137, 3) := by decide +kernel
theorem dX11_even_29 : decode cX11_even 29 = .ok (.if_icmp .ge 29, 3) := by decide +kernel
theorem dX11_even_32 : decode cX11_even 32 = .ok (.aload_n 0, 1) := by decide +kernel
theorem dX11_even_33 : decode cX11_even 33 = .ok (.getfield 10, 3) := by decide +kernel
theorem dX11_even_36 : decode cX11_even 36 = .ok (.iload 4, 2) := by decide +kernel
theorem dX11_even_38 : decode cX11_even 38 = .ok (.iload_n 1, 1) := by decide +kernel
theorem dX11_even_39 : decode cX11_even 39 = .ok (.invokevirtual 262, 3) := by decide +kernel
theorem dX11_even_42 : decode cX11_even 42 = .ok (.ifCond .ne 10, 3) := by decide +kernel
theorem dX11_even_45 : decode cX11_even 45 = .ok (.lload_n 2, 1) := by decide +kernel
theorem dX11_even_46 : decode cX11_even 46 = .ok (.lconst 1, 1) := by decide +kernel
theorem dX11_even_47 : decode cX11_even 47 = .ok (.iload 4, 2) := by decide +kernel
theorem dX11_even_49 : decode cX11_even 49 = .ok (.lshl, 1) := by decide +kernel
theorem dX11_even_50 : decode cX11_even 50 = .ok (.lor, 1) := by decide +kernel
theorem dX11_even_51 : decode cX11_even 51 = .ok (.lstore_n 2, 1) := by decide +kernel
theorem dX11_even_52 : decode cX11_even 52 = .ok (.iinc 4 1, 3) := by decide +kernel
theorem dX11_even_55 : decode cX11_even 55 = .ok (.goto (-35), 3) := by decide +kernel
theorem dX11_even_58 : decode cX11_even 58 = .ok (.lload_n 2, 1) := by decide +kernel
theorem dX11_even_59 : decode cX11_even 59 = .ok (.lreturn, 1) := by decide +kernel
theorem dX11_hold_0 : decode cX11_hold 0 = .ok (.iload_n 1, 1) := by decide +kernel
theorem dX11_hold_1 : decode cX11_hold 1 = .ok (.invokestatic 265, 3) := by decide +kernel
theorem dX11_hold_4 : decode cX11_hold 4 = .ok (.ifCond .eq 10, 3) := by decide +kernel
theorem dX11_hold_7 : decode cX11_hold 7 = .ok (.iload_n 2, 1) := by decide +kernel
theorem dX11_hold_8 : decode cX11_hold 8 = .ok (.invokestatic 265, 3) := by decide +kernel
theorem dX11_hold_11 : decode cX11_hold 11 = .ok (.ifCond .ne 7, 3) := by decide +kernel
theorem dX11_hold_14 : decode cX11_hold 14 = .ok (.sipush (-1000), 3) := by decide +kernel
theorem dX11_hold_17 : decode cX11_hold 17 = .ok (.ireturn, 1) := by decide +kernel
theorem dX11_hold_18 : decode cX11_hold 18 = .ok (.aload_n 0, 1) := by decide +kernel
theorem dX11_hold_19 : decode cX11_hold 19 = .ok (.getfield 47, 3) := by decide +kernel
theorem dX11_hold_22 : decode cX11_hold 22 = .ok (.iload_n 1, 1) := by decide +kernel
theorem dX11_hold_23 : decode cX11_hold 23 = .ok (.iload_n 2, 1) := by decide +kernel
theorem dX11_hold_24 : decode cX11_hold 24 = .ok (.invokevirtual 268, 3) := by decide +kernel
theorem dX11_hold_27 : decode cX11_hold 27 = .ok (.aload_n 0, 1) := by decide +kernel
theorem dX11_hold_28 : decode cX11_hold 28 = .ok (.getfield 47, 3) := by decide +kernel
theorem dX11_hold_31 : decode cX11_hold 31 = .ok (.getfield 272, 3) := by decide +kernel
theorem dX11_hold_34 : decode cX11_hold 34 = .ok (.ireturn, 1) := by decide +kernel
theorem dX11_holds_0 : decode cX11_holds 0 = .ok (.iload_n 1, 1) := by decide +kernel
theorem dX11_holds_1 : decode cX11_holds 1 = .ok (.invokestatic 265, 3) := by decide +kernel
theorem dX11_holds_4 : decode cX11_holds 4 = .ok (.ifCond .eq 17, 3) := by decide +kernel
theorem dX11_holds_7 : decode cX11_holds 7 = .ok (.iload_n 2, 1) := by decide +kernel
theorem dX11_holds_8 : decode cX11_holds 8 = .ok (.invokestatic 265, 3) := by decide +kernel
theorem dX11_holds_11 : decode cX11_holds 11 = .ok (.ifCond .eq 10, 3) := by decide +kernel
theorem dX11_holds_14 : decode cX11_holds 14 = .ok (.iload_n 3, 1) := by decide +kernel
theorem dX11_holds_15 : decode cX11_holds 15 = .ok (.invokestatic 275, 3) := by decide +kernel
theorem dX11_holds_18 : decode cX11_holds 18 = .ok (.ifCond .ne 6, 3) := by decide +kernel
theorem dX11_holds_21 : decode cX11_holds 21 = .ok (.bipush (-2), 2) := by decide +kernel
theorem dX11_holds_23 : decode cX11_holds 23 = .ok (.ireturn, 1) := by decide +kernel
theorem dX11_holds_24 : decode cX11_holds 24 = .ok (.aload_n 0, 1) := by decide +kernel
theorem dX11_holds_25 : decode cX11_holds 25 = .ok (.getfield 47, 3) := by decide +kernel
theorem dX11_holds_28 : decode cX11_holds 28 = .ok (.iload_n 1, 1) := by decide +kernel
theorem dX11_holds_29 : decode cX11_holds 29 = .ok (.iload_n 2, 1) := by decide +kernel
theorem dX11_holds_30 : decode cX11_holds 30 = .ok (.invokevirtual 268, 3) := by decide +kernel
theorem dX11_holds_33 : decode cX11_holds 33 = .ok (.aload_n 0, 1) := by decide +kernel
theorem dX11_holds_34 : decode cX11_holds 34 = .ok (.getfield 47, 3) := by decide +kernel
theorem dX11_holds_37 : decode cX11_holds 37 = .ok (.getfield 278, 3) := by decide +kernel
theorem dX11_holds_40 : decode cX11_holds 40 = .ok (.iload_n 3, 1) := by decide +kernel
theorem dX11_holds_41 : decode cX11_holds 41 = .ok (.iaload, 1) := by decide +kernel
theorem dX11_holds_42 : decode cX11_holds 42 = .ok (.ireturn, 1) := by decide +kernel
theorem dX11_reply_0 : decode cX11_reply 0 = .ok (.iload_n 1, 1) := by decide +kernel
theorem dX11_reply_1 : decode cX11_reply 1 = .ok (.invokestatic 265, 3) := by decide +kernel
theorem dX11_reply_4 : decode cX11_reply 4 = .ok (.ifCond .eq 17, 3) := by decide +kernel
theorem dX11_reply_7 : decode cX11_reply 7 = .ok (.iload_n 2, 1) := by decide +kernel
theorem dX11_reply_8 : decode cX11_reply 8 = .ok (.invokestatic 265, 3) := by decide +kernel
theorem dX11_reply_11 : decode cX11_reply 11 = .ok (.ifCond .eq 10, 3) := by decide +kernel
theorem dX11_reply_14 : decode cX11_reply 14 = .ok (.iload_n 3, 1) := by decide +kernel
theorem dX11_reply_15 : decode cX11_reply 15 = .ok (.invokestatic 275, 3) := by decide +kernel
theorem dX11_reply_18 : decode cX11_reply 18 = .ok (.ifCond .ne 6, 3) := by decide +kernel
theorem dX11_reply_21 : decode cX11_reply 21 = .ok (.bipush (-2), 2) := by decide +kernel
theorem dX11_reply_23 : decode cX11_reply 23 = .ok (.ireturn, 1) := by decide +kernel
theorem dX11_reply_24 : decode cX11_reply 24 = .ok (.aload_n 0, 1) := by decide +kernel
theorem dX11_reply_25 : decode cX11_reply 25 = .ok (.getfield 47, 3) := by decide +kernel
theorem dX11_reply_28 : decode cX11_reply 28 = .ok (.iload_n 1, 1) := by decide +kernel
theorem dX11_reply_29 : decode cX11_reply 29 = .ok (.iload_n 2, 1) := by decide +kernel
theorem dX11_reply_30 : decode cX11_reply 30 = .ok (.invokevirtual 268, 3) := by decide +kernel
theorem dX11_reply_33 : decode cX11_reply 33 = .ok (.aload_n 0, 1) := by decide +kernel
theorem dX11_reply_34 : decode cX11_reply 34 = .ok (.getfield 47, 3) := by decide +kernel
theorem dX11_reply_37 : decode cX11_reply 37 = .ok (.getfield 282, 3) := by decide +kernel
theorem dX11_reply_40 : decode cX11_reply 40 = .ok (.iload_n 3, 1) := by decide +kernel
theorem dX11_reply_41 : decode cX11_reply 41 = .ok (.iaload, 1) := by decide +kernel
theorem dX11_reply_42 : decode cX11_reply 42 = .ok (.ireturn, 1) := by decide +kernel
theorem dX11_readings_0 : decode cX11_readings 0 = .ok (.aload_n 0, 1) := by decide +kernel
theorem dX11_readings_1 : decode cX11_readings 1 = .ok (.iload_n 1, 1) := by decide +kernel
theorem dX11_readings_2 : decode cX11_readings 2 = .ok (.invokevirtual 285, 3) := by decide +kernel
theorem dX11_readings_5 : decode cX11_readings 5 = .ok (.ifCond .eq 14, 3) := by decide +kernel
theorem dX11_readings_8 : decode cX11_readings 8 = .ok (.aload_n 0, 1) := by decide +kernel
theorem dX11_readings_9 : decode cX11_readings 9 = .ok (.getfield 54, 3) := by decide +kernel
theorem dX11_readings_12 : decode cX11_readings 12 = .ok (.iload_n 1, 1) := by decide +kernel
theorem dX11_readings_13 : decode cX11_readings 13 = .ok (.invokevirtual 288, 3) := by decide +kernel
theorem dX11_readings_16 : decode cX11_readings 16 = .ok (.goto 5, 3) := by decide +kernel
theorem dX11_readings_19 : decode cX11_readings 19 = .ok (.bipush (-2), 2) := by decide +kernel
theorem dX11_readings_21 : decode cX11_readings 21 = .ok (.ireturn, 1) := by decide +kernel
theorem dX11_loopholes_0 : decode cX11_loopholes 0 = .ok (.aload_n 0, 1) := by decide +kernel
theorem dX11_loopholes_1 : decode cX11_loopholes 1 = .ok (.getfield 10, 3) := by decide +kernel
theorem dX11_loopholes_4 : decode cX11_loopholes 4 = .ok (.invokevirtual 133, 3) := by decide +kernel
theorem dX11_loopholes_7 : decode cX11_loopholes 7 = .ok (.ifCond .eq 13, 3) := by decide +kernel
theorem dX11_loopholes_10 : decode cX11_loopholes 10 = .ok (.aload_n 0, 1) := by decide +kernel
theorem dX11_loopholes_11 : decode cX11_loopholes 11 = .ok (.getfield 54, 3) := by decide +kernel
theorem dX11_loopholes_14 : decode cX11_loopholes 14 = .ok (.invokevirtual 291, 3) := by decide +kernel
theorem dX11_loopholes_17 : decode cX11_loopholes 17 = .ok (.goto 6, 3) := by decide +kernel
theorem dX11_loopholes_20 : decode cX11_loopholes 20 = .ok (.ldc2_w 196, 3) := by decide +kernel
theorem dX11_loopholes_23 : decode cX11_loopholes 23 = .ok (.lreturn, 1) := by decide +kernel
theorem dX11_close_0 : decode cX11_close 0 = .ok (.aload_n 0, 1) := by decide +kernel
theorem dX11_close_1 : decode cX11_close 1 = .ok (.iload_n 1, 1) := by decide +kernel
theorem dX11_close_2 : decode cX11_close 2 = .ok (.invokevirtual 285, 3) := by decide +kernel
theorem dX11_close_5 : decode cX11_close 5 = .ok (.ifCond .ne 6, 3) := by decide +kernel
theorem dX11_close_8 : decode cX11_close 8 = .ok (.bipush (-2), 2) := by decide +kernel
theorem dX11_close_10 : decode cX11_close 10 = .ok (.ireturn, 1) := by decide +kernel
theorem dX11_close_11 : decode cX11_close 11 = .ok (.aload_n 0, 1) := by decide +kernel
theorem dX11_close_12 : decode cX11_close 12 = .ok (.getfield 54, 3) := by decide +kernel
theorem dX11_close_15 : decode cX11_close 15 = .ok (.iload_n 1, 1) := by decide +kernel
theorem dX11_close_16 : decode cX11_close 16 = .ok (.invokevirtual 295, 3) := by decide +kernel
theorem dX11_close_19 : decode cX11_close 19 = .ok (.istore_n 2, 1) := by decide +kernel
theorem dX11_close_20 : decode cX11_close 20 = .ok (.iload_n 2, 1) := by decide +kernel
theorem dX11_close_21 : decode cX11_close 21 = .ok (.iconst (-1), 1) := by decide +kernel
theorem dX11_close_22 : decode cX11_close 22 = .ok (.if_icmp .ne 7, 3) := by decide +kernel
theorem dX11_close_25 : decode cX11_close 25 = .ok (.iconst (-1), 1) := by decide +kernel
theorem dX11_close_26 : decode cX11_close 26 = .ok (.goto 7, 3) := by decide +kernel
theorem dX11_close_29 : decode cX11_close 29 = .ok (.iload_n 2, 1) := by decide +kernel
theorem dX11_close_30 : decode cX11_close 30 = .ok (.invokestatic 205, 3) := by decide +kernel
theorem dX11_close_33 : decode cX11_close 33 = .ok (.ireturn, 1) := by decide +kernel
theorem dX11_closed_0 : decode cX11_closed 0 = .ok (.aload_n 0, 1) := by decide +kernel
theorem dX11_closed_1 : decode cX11_closed 1 = .ok (.iload_n 1, 1) := by decide +kernel
theorem dX11_closed_2 : decode cX11_closed 2 = .ok (.invokevirtual 285, 3) := by decide +kernel
theorem dX11_closed_5 : decode cX11_closed 5 = .ok (.ifCond .eq 14, 3) := by decide +kernel
theorem dX11_closed_8 : decode cX11_closed 8 = .ok (.aload_n 0, 1) := by decide +kernel
theorem dX11_closed_9 : decode cX11_closed 9 = .ok (.getfield 54, 3) := by decide +kernel
theorem dX11_closed_12 : decode cX11_closed 12 = .ok (.iload_n 1, 1) := by decide +kernel
theorem dX11_closed_13 : decode cX11_closed 13 = .ok (.invokevirtual 295, 3) := by decide +kernel
theorem dX11_closed_16 : decode cX11_closed 16 = .ok (.goto 5, 3) := by decide +kernel
theorem dX11_closed_19 : decode cX11_closed 19 = .ok (.bipush (-2), 2) := by decide +kernel
theorem dX11_closed_21 : decode cX11_closed 21 = .ok (.ireturn, 1) := by decide +kernel
theorem dX11_signs_0 : decode cX11_signs 0 = .ok (.aload_n 0, 1) := by decide +kernel
theorem dX11_signs_1 : decode cX11_signs 1 = .ok (.getfield 10, 3) := by decide +kernel
theorem dX11_signs_4 : decode cX11_signs 4 = .ok (.invokevirtual 133, 3) := by decide +kernel
theorem dX11_signs_7 : decode cX11_signs 7 = .ok (.ifCond .eq 13, 3) := by decide +kernel
theorem dX11_signs_10 : decode cX11_signs 10 = .ok (.aload_n 0, 1) := by decide +kernel
theorem dX11_signs_11 : decode cX11_signs 11 = .ok (.getfield 54, 3) := by decide +kernel
theorem dX11_signs_14 : decode cX11_signs 14 = .ok (.invokevirtual 298, 3) := by decide +kernel
theorem dX11_signs_17 : decode cX11_signs 17 = .ok (.goto 5, 3) := by decide +kernel
theorem dX11_signs_20 : decode cX11_signs 20 = .ok (.bipush (-2), 2) := by decide +kernel
theorem dX11_signs_22 : decode cX11_signs 22 = .ok (.ireturn, 1) := by decide +kernel
theorem dX11_treaties_0 : decode cX11_treaties 0 = .ok (.aload_n 0, 1) := by decide +kernel
theorem dX11_treaties_1 : decode cX11_treaties 1 = .ok (.getfield 10, 3) := by decide +kernel
theorem dX11_treaties_4 : decode cX11_treaties 4 = .ok (.iload_n 1, 1) := by decide +kernel
theorem dX11_treaties_5 : decode cX11_treaties 5 = .ok (.invokevirtual 155, 3) := by decide +kernel
theorem dX11_treaties_8 : decode cX11_treaties 8 = .ok (.ifCond .ne 7, 3) := by decide +kernel
theorem dX11_treaties_11 : decode cX11_treaties 11 = .ok (.ldc2_w 196, 3) := by decide +kernel
theorem dX11_treaties_14 : decode cX11_treaties 14 = .ok (.lreturn, 1) := by decide +kernel
theorem dX11_treaties_15 : decode cX11_treaties 15 = .ok (.aload_n 0, 1) := by decide +kernel
theorem dX11_treaties_16 : decode cX11_treaties 16 = .ok (.getfield 31, 3) := by decide +kernel
theorem dX11_treaties_19 : decode cX11_treaties 19 = .ok (.iload_n 1, 1) := by decide +kernel
theorem dX11_treaties_20 : decode cX11_treaties 20 = .ok (.invokevirtual 162, 3) := by decide +kernel
theorem dX11_treaties_23 : decode cX11_treaties 23 = .ok (.aload_n 0, 1) := by decide +kernel
theorem dX11_treaties_24 : decode cX11_treaties 24 = .ok (.getfield 31, 3) := by decide +kernel
theorem dX11_treaties_27 : decode cX11_treaties 27 = .ok (.invokevirtual 301, 3) := by decide +kernel
theorem dX11_treaties_30 : decode cX11_treaties 30 = .ok (.lreturn, 1) := by decide +kernel
theorem dX11_price_0 : decode cX11_price 0 = .ok (.aload_n 0, 1) := by decide +kernel
theorem dX11_price_1 : decode cX11_price 1 = .ok (.getfield 10, 3) := by decide +kernel
theorem dX11_price_4 : decode cX11_price 4 = .ok (.iload_n 2, 1) := by decide +kernel
theorem dX11_price_5 : decode cX11_price 5 = .ok (.invokevirtual 155, 3) := by decide +kernel
theorem dX11_price_8 : decode cX11_price 8 = .ok (.ifCond .eq 19, 3) := by decide +kernel
theorem dX11_price_11 : decode cX11_price 11 = .ok (.iload_n 1, 1) := by decide +kernel
theorem dX11_price_12 : decode cX11_price 12 = .ok (.iconst 1, 1) := by decide +kernel
theorem dX11_price_13 : decode cX11_price 13 = .ok (.if_icmp .lt 14, 3) := by decide +kernel
theorem dX11_price_16 : decode cX11_price 16 = .ok (.iload_n 1, 1) := by decide +kernel
theorem dX11_price_17 : decode cX11_price 17 = .ok (.aload_n 0, 1) := by decide +kernel
theorem dX11_price_18 : decode cX11_price 18 = .ok (.getfield 10, 3) := by decide +kernel
theorem dX11_price_21 : decode cX11_price 21 = .ok (.getfield 137, 3) := by decide +kernel
theorem dX11_price_24 : decode cX11_price 24 = .ok (.if_icmp .le 6, 3) := by decide +kernel
theorem dX11_price_27 : decode cX11_price 27 = .ok (.bipush (-2), 2) := by decide +kernel
theorem dX11_price_29 : decode cX11_price 29 = .ok (.ireturn, 1) := by decide +kernel
theorem dX11_price_30 : decode cX11_price 30 = .ok (.aload_n 0, 1) := by decide +kernel
theorem dX11_price_31 : decode cX11_price 31 = .ok (.getfield 31, 3) := by decide +kernel
theorem dX11_price_34 : decode cX11_price 34 = .ok (.iload_n 2, 1) := by decide +kernel
theorem dX11_price_35 : decode cX11_price 35 = .ok (.invokevirtual 162, 3) := by decide +kernel
theorem dX11_price_38 : decode cX11_price 38 = .ok (.aload_n 0, 1) := by decide +kernel
theorem dX11_price_39 : decode cX11_price 39 = .ok (.getfield 31, 3) := by decide +kernel
theorem dX11_price_42 : decode cX11_price 42 = .ok (.iload_n 1, 1) := by decide +kernel
theorem dX11_price_43 : decode cX11_price 43 = .ok (.invokevirtual 304, 3) := by decide +kernel
theorem dX11_price_46 : decode cX11_price 46 = .ok (.istore_n 3, 1) := by decide +kernel
theorem dX11_price_47 : decode cX11_price 47 = .ok (.iload_n 3, 1) := by decide +kernel
theorem dX11_price_48 : decode cX11_price 48 = .ok (.bipush 60, 2) := by decide +kernel
theorem dX11_price_50 : decode cX11_price 50 = .ok (.if_icmp .gt 7, 3) := by decide +kernel
theorem dX11_price_53 : decode cX11_price 53 = .ok (.iload_n 3, 1) := by decide +kernel
theorem dX11_price_54 : decode cX11_price 54 = .ok (.goto 4, 3) := by decide +kernel
theorem dX11_price_57 : decode cX11_price 57 = .ok (.iconst (-1), 1) := by decide +kernel
theorem dX11_price_58 : decode cX11_price 58 = .ok (.ireturn, 1) := by decide +kernel
theorem dX11_spies_0 : decode cX11_spies 0 = .ok (.aload_n 0, 1) := by decide +kernel
theorem dX11_spies_1 : decode cX11_spies 1 = .ok (.getfield 10, 3) := by decide +kernel
theorem dX11_spies_4 : decode cX11_spies 4 = .ok (.iload_n 1, 1) := by decide +kernel
theorem dX11_spies_5 : decode cX11_spies 5 = .ok (.invokevirtual 155, 3) := by decide +kernel
theorem dX11_spies_8 : decode cX11_spies 8 = .ok (.ifCond .eq 14, 3) := by decide +kernel
theorem dX11_spies_11 : decode cX11_spies 11 = .ok (.aload_n 0, 1) := by decide +kernel
theorem dX11_spies_12 : decode cX11_spies 12 = .ok (.getfield 61, 3) := by decide +kernel
theorem dX11_spies_15 : decode cX11_spies 15 = .ok (.iload_n 1, 1) := by decide +kernel
theorem dX11_spies_16 : decode cX11_spies 16 = .ok (.invokevirtual 307, 3) := by decide +kernel
theorem dX11_spies_19 : decode cX11_spies 19 = .ok (.goto 5, 3) := by decide +kernel
theorem dX11_spies_22 : decode cX11_spies 22 = .ok (.bipush (-2), 2) := by decide +kernel
theorem dX11_spies_24 : decode cX11_spies 24 = .ok (.ireturn, 1) := by decide +kernel
theorem dX11_watch_0 : decode cX11_watch 0 = .ok (.aload_n 0, 1) := by decide +kernel
theorem dX11_watch_1 : decode cX11_watch 1 = .ok (.getfield 10, 3) := by decide +kernel
theorem dX11_watch_4 : decode cX11_watch 4 = .ok (.iload_n 1, 1) := by decide +kernel
theorem dX11_watch_5 : decode cX11_watch 5 = .ok (.invokevirtual 155, 3) := by decide +kernel
theorem dX11_watch_8 : decode cX11_watch 8 = .ok (.ifCond .eq 14, 3) := by decide +kernel
theorem dX11_watch_11 : decode cX11_watch 11 = .ok (.aload_n 0, 1) := by decide +kernel
theorem dX11_watch_12 : decode cX11_watch 12 = .ok (.getfield 61, 3) := by decide +kernel
theorem dX11_watch_15 : decode cX11_watch 15 = .ok (.iload_n 1, 1) := by decide +kernel
theorem dX11_watch_16 : decode cX11_watch 16 = .ok (.invokevirtual 310, 3) := by decide +kernel
theorem dX11_watch_19 : decode cX11_watch 19 = .ok (.goto 5, 3) := by decide +kernel
theorem dX11_watch_22 : decode cX11_watch 22 = .ok (.bipush (-2), 2) := by decide +kernel
theorem dX11_watch_24 : decode cX11_watch 24 = .ok (.ireturn, 1) := by decide +kernel
theorem dX11_leaves_0 : decode cX11_leaves 0 = .ok (.aload_n 0, 1) := by decide +kernel
theorem dX11_leaves_1 : decode cX11_leaves 1 = .ok (.getfield 10, 3) := by decide +kernel
theorem dX11_leaves_4 : decode cX11_leaves 4 = .ok (.iload_n 1, 1) := by decide +kernel
theorem dX11_leaves_5 : decode cX11_leaves 5 = .ok (.invokevirtual 155, 3) := by decide +kernel
theorem dX11_leaves_8 : decode cX11_leaves 8 = .ok (.ifCond .eq 22, 3) := by decide +kernel
theorem dX11_leaves_11 : decode cX11_leaves 11 = .ok (.aload_n 0, 1) := by decide +kernel
theorem dX11_leaves_12 : decode cX11_leaves 12 = .ok (.getfield 61, 3) := by decide +kernel
theorem dX11_leaves_15 : decode cX11_leaves 15 = .ok (.iload_n 1, 1) := by decide +kernel
theorem dX11_leaves_16 : decode cX11_leaves 16 = .ok (.aload_n 0, 1) := by decide +kernel
theorem dX11_leaves_17 : decode cX11_leaves 17 = .ok (.getfield 61, 3) := by decide +kernel
theorem dX11_leaves_20 : decode cX11_leaves 20 = .ok (.iload_n 1, 1) := by decide +kernel
theorem dX11_leaves_21 : decode cX11_leaves 21 = .ok (.invokevirtual 310, 3) := by decide +kernel
theorem dX11_leaves_24 : decode cX11_leaves 24 = .ok (.invokevirtual 313, 3) := by decide +kernel
theorem dX11_leaves_27 : decode cX11_leaves 27 = .ok (.goto 5, 3) := by decide +kernel
theorem dX11_leaves_30 : decode cX11_leaves 30 = .ok (.bipush (-2), 2) := by decide +kernel
theorem dX11_leaves_32 : decode cX11_leaves 32 = .ok (.ireturn, 1) := by decide +kernel
theorem dX11_known_0 : decode cX11_known 0 = .ok (.aload_n 0, 1) := by decide +kernel
theorem dX11_known_1 : decode cX11_known 1 = .ok (.getfield 10, 3) := by decide +kernel
theorem dX11_known_4 : decode cX11_known 4 = .ok (.iload_n 1, 1) := by decide +kernel
theorem dX11_known_5 : decode cX11_known 5 = .ok (.invokevirtual 155, 3) := by decide +kernel
theorem dX11_known_8 : decode cX11_known 8 = .ok (.ifCond .eq 10, 3) := by decide +kernel
theorem dX11_known_11 : decode cX11_known 11 = .ok (.iload_n 2, 1) := by decide +kernel
theorem dX11_known_12 : decode cX11_known 12 = .ok (.invokestatic 193, 3) := by decide +kernel
theorem dX11_known_15 : decode cX11_known 15 = .ok (.ifCond .ne 6, 3) := by decide +kernel
theorem dX11_known_18 : decode cX11_known 18 = .ok (.bipush (-2), 2) := by decide +kernel
theorem dX11_known_20 : decode cX11_known 20 = .ok (.ireturn, 1) := by decide +kernel
theorem dX11_known_21 : decode cX11_known 21 = .ok (.iload_n 2, 1) := by decide +kernel
theorem dX11_known_22 : decode cX11_known 22 = .ok (.ifCond .ne 14, 3) := by decide +kernel
theorem dX11_known_25 : decode cX11_known 25 = .ok (.aload_n 0, 1) := by decide +kernel
theorem dX11_known_26 : decode cX11_known 26 = .ok (.getfield 61, 3) := by decide +kernel
theorem dX11_known_29 : decode cX11_known 29 = .ok (.iload_n 1, 1) := by decide +kernel
theorem dX11_known_30 : decode cX11_known 30 = .ok (.invokevirtual 316, 3) := by decide +kernel
theorem dX11_known_33 : decode cX11_known 33 = .ok (.goto 11, 3) := by decide +kernel
theorem dX11_known_36 : decode cX11_known 36 = .ok (.aload_n 0, 1) := by decide +kernel
theorem dX11_known_37 : decode cX11_known 37 = .ok (.getfield 61, 3) := by decide +kernel
theorem dX11_known_40 : decode cX11_known 40 = .ok (.iload_n 1, 1) := by decide +kernel
theorem dX11_known_41 : decode cX11_known 41 = .ok (.invokevirtual 319, 3) := by decide +kernel
theorem dX11_known_44 : decode cX11_known 44 = .ok (.ireturn, 1) := by decide +kernel
theorem dX11_grant_0 : decode cX11_grant 0 = .ok (.aload_n 0, 1) := by decide +kernel
theorem dX11_grant_1 : decode cX11_grant 1 = .ok (.getfield 10, 3) := by decide +kernel
theorem dX11_grant_4 : decode cX11_grant 4 = .ok (.invokevirtual 133, 3) := by decide +kernel
theorem dX11_grant_7 : decode cX11_grant 7 = .ok (.ifCond .eq 21, 3) := by decide +kernel
theorem dX11_grant_10 : decode cX11_grant 10 = .ok (.aload_n 0, 1) := by decide +kernel
theorem dX11_grant_11 : decode cX11_grant 11 = .ok (.getfield 68, 3) := by decide +kernel
theorem dX11_grant_14 : decode cX11_grant 14 = .ok (.aload_n 0, 1) := by decide +kernel
theorem dX11_grant_15 : decode cX11_grant 15 = .ok (.getfield 68, 3) := by decide +kernel
theorem dX11_grant_18 : decode cX11_grant 18 = .ok (.iconst 0, 1) := by decide +kernel
theorem dX11_grant_19 : decode cX11_grant 19 = .ok (.invokevirtual 322, 3) := by decide +kernel
theorem dX11_grant_22 : decode cX11_grant 22 = .ok (.invokevirtual 326, 3) := by decide +kernel
theorem dX11_grant_25 : decode cX11_grant 25 = .ok (.goto 5, 3) := by decide +kernel
theorem dX11_grant_28 : decode cX11_grant 28 = .ok (.bipush (-2), 2) := by decide +kernel
theorem dX11_grant_30 : decode cX11_grant 30 = .ok (.ireturn, 1) := by decide +kernel
theorem dX11_granted_0 : decode cX11_granted 0 = .ok (.aload_n 0, 1) := by decide +kernel
theorem dX11_granted_1 : decode cX11_granted 1 = .ok (.getfield 10, 3) := by decide +kernel
theorem dX11_granted_4 : decode cX11_granted 4 = .ok (.invokevirtual 133, 3) := by decide +kernel
theorem dX11_granted_7 : decode cX11_granted 7 = .ok (.ifCond .eq 14, 3) := by decide +kernel
theorem dX11_granted_10 : decode cX11_granted 10 = .ok (.aload_n 0, 1) := by decide +kernel
theorem dX11_granted_11 : decode cX11_granted 11 = .ok (.getfield 68, 3) := by decide +kernel
theorem dX11_granted_14 : decode cX11_granted 14 = .ok (.iconst 0, 1) := by decide +kernel
theorem dX11_granted_15 : decode cX11_granted 15 = .ok (.invokevirtual 322, 3) := by decide +kernel
theorem dX11_granted_18 : decode cX11_granted 18 = .ok (.goto 5, 3) := by decide +kernel
theorem dX11_granted_21 : decode cX11_granted 21 = .ok (.bipush (-2), 2) := by decide +kernel
theorem dX11_granted_23 : decode cX11_granted 23 = .ok (.ireturn, 1) := by decide +kernel
theorem dX11_halves_0 : decode cX11_halves 0 = .ok (.aload_n 0, 1) := by decide +kernel
theorem dX11_halves_1 : decode cX11_halves 1 = .ok (.getfield 10, 3) := by decide +kernel
theorem dX11_halves_4 : decode cX11_halves 4 = .ok (.invokevirtual 133, 3) := by decide +kernel
theorem dX11_halves_7 : decode cX11_halves 7 = .ok (.ifCond .eq 21, 3) := by decide +kernel
theorem dX11_halves_10 : decode cX11_halves 10 = .ok (.aload_n 0, 1) := by decide +kernel
theorem dX11_halves_11 : decode cX11_halves 11 = .ok (.getfield 68, 3) := by decide +kernel
theorem dX11_halves_14 : decode cX11_halves 14 = .ok (.aload_n 0, 1) := by decide +kernel
theorem dX11_halves_15 : decode cX11_halves 15 = .ok (.getfield 68, 3) := by decide +kernel
theorem dX11_halves_18 : decode cX11_halves 18 = .ok (.iconst 1, 1) := by decide +kernel
theorem dX11_halves_19 : decode cX11_halves 19 = .ok (.invokevirtual 322, 3) := by decide +kernel
theorem dX11_halves_22 : decode cX11_halves 22 = .ok (.invokevirtual 326, 3) := by decide +kernel
theorem dX11_halves_25 : decode cX11_halves 25 = .ok (.goto 5, 3) := by decide +kernel
theorem dX11_halves_28 : decode cX11_halves 28 = .ok (.bipush (-2), 2) := by decide +kernel
theorem dX11_halves_30 : decode cX11_halves 30 = .ok (.ireturn, 1) := by decide +kernel
theorem dX11_halved_0 : decode cX11_halved 0 = .ok (.aload_n 0, 1) := by decide +kernel
theorem dX11_halved_1 : decode cX11_halved 1 = .ok (.getfield 10, 3) := by decide +kernel
theorem dX11_halved_4 : decode cX11_halved 4 = .ok (.invokevirtual 133, 3) := by decide +kernel
theorem dX11_halved_7 : decode cX11_halved 7 = .ok (.ifCond .eq 14, 3) := by decide +kernel
theorem dX11_halved_10 : decode cX11_halved 10 = .ok (.aload_n 0, 1) := by decide +kernel
theorem dX11_halved_11 : decode cX11_halved 11 = .ok (.getfield 68, 3) := by decide +kernel
theorem dX11_halved_14 : decode cX11_halved 14 = .ok (.iconst 1, 1) := by decide +kernel
theorem dX11_halved_15 : decode cX11_halved 15 = .ok (.invokevirtual 322, 3) := by decide +kernel
theorem dX11_halved_18 : decode cX11_halved 18 = .ok (.goto 5, 3) := by decide +kernel
theorem dX11_halved_21 : decode cX11_halved 21 = .ok (.bipush (-2), 2) := by decide +kernel
theorem dX11_halved_23 : decode cX11_halved 23 = .ok (.ireturn, 1) := by decide +kernel
theorem dX11_dry_0 : decode cX11_dry 0 = .ok (.aload_n 0, 1) := by decide +kernel
theorem dX11_dry_1 : decode cX11_dry 1 = .ok (.getfield 10, 3) := by decide +kernel
theorem dX11_dry_4 : decode cX11_dry 4 = .ok (.invokevirtual 133, 3) := by decide +kernel
theorem dX11_dry_7 : decode cX11_dry 7 = .ok (.ifCond .eq 30, 3) := by decide +kernel
theorem dX11_dry_10 : decode cX11_dry 10 = .ok (.iload_n 1, 1) := by decide +kernel
theorem dX11_dry_11 : decode cX11_dry 11 = .ok (.iconst 1, 1) := by decide +kernel
theorem dX11_dry_12 : decode cX11_dry 12 = .ok (.if_icmp .lt 25, 3) := by decide +kernel
theorem dX11_dry_15 : decode cX11_dry 15 = .ok (.iload_n 1, 1) := by decide +kernel
theorem dX11_dry_16 : decode cX11_dry 16 = .ok (.bipush 9, 2) := by decide +kernel
theorem dX11_dry_18 : decode cX11_dry 18 = .ok (.if_icmp .gt 19, 3) := by decide +kernel
theorem dX11_dry_21 : decode cX11_dry 21 = .ok (.iload_n 2, 1) := by decide +kernel
theorem dX11_dry_22 : decode cX11_dry 22 = .ok (.ifCond .lt 15, 3) := by decide +kernel
theorem dX11_dry_25 : decode cX11_dry 25 = .ok (.iload_n 2, 1) := by decide +kernel
theorem dX11_dry_26 : decode cX11_dry 26 = .ok (.iload_n 1, 1) := by decide +kernel
theorem dX11_dry_27 : decode cX11_dry 27 = .ok (.if_icmp .gt 10, 3) := by decide +kernel
theorem dX11_dry_30 : decode cX11_dry 30 = .ok (.iload_n 3, 1) := by decide +kernel
theorem dX11_dry_31 : decode cX11_dry 31 = .ok (.invokestatic 193, 3) := by decide +kernel
theorem dX11_dry_34 : decode cX11_dry 34 = .ok (.ifCond .ne 7, 3) := by decide +kernel
theorem dX11_dry_37 : decode cX11_dry 37 = .ok (.ldc2_w 196, 3) := by decide +kernel
theorem dX11_dry_40 : decode cX11_dry 40 = .ok (.lreturn, 1) := by decide +kernel
theorem dX11_dry_41 : decode cX11_dry 41 = .ok (.aload_n 0, 1) := by decide +kernel
theorem dX11_dry_42 : decode cX11_dry 42 = .ok (.getfield 10, 3) := by decide +kernel
theorem dX11_dry_45 : decode cX11_dry 45 = .ok (.getfield 329, 3) := by decide +kernel
theorem dX11_dry_48 : decode cX11_dry 48 = .ok (.iload_n 1, 1) := by decide +kernel
theorem dX11_dry_49 : decode cX11_dry 49 = .ok (.iload_n 2, 1) := by decide +kernel
theorem dX11_dry_50 : decode cX11_dry 50 = .ok (.invokestatic 332, 3) := by decide +kernel
theorem dX11_dry_53 : decode cX11_dry 53 = .ok (.iload_n 1, 1) := by decide +kernel
theorem dX11_dry_54 : decode cX11_dry 54 = .ok (.invokestatic 210, 3) := by decide +kernel
theorem dX11_dry_57 : decode cX11_dry 57 = .ok (.iload_n 3, 1) := by decide +kernel
theorem dX11_dry_58 : decode cX11_dry 58 = .ok (.invokestatic 215, 3) := by decide +kernel
theorem dX11_dry_61 : decode cX11_dry 61 = .ok (.lreturn, 1) := by decide +kernel
theorem dX11_insist_0 : decode cX11_insist 0 = .ok (.aload_n 0, 1) := by decide +kernel
theorem dX11_insist_1 : decode cX11_insist 1 = .ok (.getfield 10, 3) := by decide +kernel
theorem dX11_insist_4 : decode cX11_insist 4 = .ok (.invokevirtual 133, 3) := by decide +kernel
theorem dX11_insist_7 : decode cX11_insist 7 = .ok (.ifCond .eq 24, 3) := by decide +kernel
theorem dX11_insist_10 : decode cX11_insist 10 = .ok (.iload_n 1, 1) := by decide +kernel
theorem dX11_insist_11 : decode cX11_insist 11 = .ok (.invokestatic 336, 3) := by decide +kernel
theorem dX11_insist_14 : decode cX11_insist 14 = .ok (.ifCond .eq 17, 3) := by decide +kernel
theorem dX11_insist_17 : decode cX11_insist 17 = .ok (.aload_n 0, 1) := by decide +kernel
theorem dX11_insist_18 : decode cX11_insist 18 = .ok (.getfield 10, 3) := by decide +kernel
theorem dX11_insist_21 : decode cX11_insist 21 = .ok (.getfield 329, 3) := by decide +kernel
theorem dX11_insist_24 : decode cX11_insist 24 = .ok (.iload_n 1, 1) := by decide +kernel
theorem dX11_insist_25 : decode cX11_insist 25 = .ok (.invokestatic 339, 3) := by decide +kernel
theorem dX11_insist_28 : decode cX11_insist 28 = .ok (.goto 5, 3) := by decide +kernel
theorem dX11_insist_31 : decode cX11_insist 31 = .ok (.bipush (-2), 2) := by decide +kernel
theorem dX11_insist_33 : decode cX11_insist 33 = .ok (.ireturn, 1) := by decide +kernel
theorem dX11_tell_0 : decode cX11_tell 0 = .ok (.aload_n 0, 1) := by decide +kernel
theorem dX11_tell_1 : decode cX11_tell 1 = .ok (.getfield 10, 3) := by decide +kernel
theorem dX11_tell_4 : decode cX11_tell 4 = .ok (.iload_n 1, 1) := by decide +kernel
theorem dX11_tell_5 : decode cX11_tell 5 = .ok (.invokevirtual 342, 3) := by decide +kernel
theorem dX11_tell_8 : decode cX11_tell 8 = .ok (.ifCond .eq 24, 3) := by decide +kernel
theorem dX11_tell_11 : decode cX11_tell 11 = .ok (.iload_n 2, 1) := by decide +kernel
theorem dX11_tell_12 : decode cX11_tell 12 = .ok (.ifCond .lt 20, 3) := by decide +kernel
theorem dX11_tell_15 : decode cX11_tell 15 = .ok (.iload_n 2, 1) := by decide +kernel
theorem dX11_tell_16 : decode cX11_tell 16 = .ok (.iconst 2, 1) := by decide +kernel
theorem dX11_tell_17 : decode cX11_tell 17 = .ok (.if_icmp .gt 15, 3) := by decide +kernel
theorem dX11_tell_20 : decode cX11_tell 20 = .ok (.iload_n 3, 1) := by decide +kernel
theorem dX11_tell_21 : decode cX11_tell 21 = .ok (.ifCond .lt 11, 3) := by decide +kernel
theorem dX11_tell_24 : decode cX11_tell 24 = .ok (.iload_n 3, 1) := by decide +kernel
theorem dX11_tell_25 : decode cX11_tell 25 = .ok (.iload_n 2, 1) := by decide +kernel
theorem dX11_tell_26 : decode cX11_tell 26 = .ok (.invokestatic 345, 3) := by decide +kernel
theorem dX11_tell_29 : decode cX11_tell 29 = .ok (.if_icmp .le 6, 3) := by decide +kernel
theorem dX11_tell_32 : decode cX11_tell 32 = .ok (.bipush (-2), 2) := by decide +kernel
theorem dX11_tell_34 : decode cX11_tell 34 = .ok (.ireturn, 1) := by decide +kernel
theorem dX11_tell_35 : decode cX11_tell 35 = .ok (.aload_n 0, 1) := by decide +kernel
theorem dX11_tell_36 : decode cX11_tell 36 = .ok (.getfield 31, 3) := by decide +kernel
theorem dX11_tell_39 : decode cX11_tell 39 = .ok (.invokevirtual 107, 3) := by decide +kernel
theorem dX11_tell_42 : decode cX11_tell 42 = .ok (.aload_n 0, 1) := by decide +kernel
theorem dX11_tell_43 : decode cX11_tell 43 = .ok (.getfield 10, 3) := by decide +kernel
theorem dX11_tell_46 : decode cX11_tell 46 = .ok (.iload_n 1, 1) := by decide +kernel
theorem dX11_tell_47 : decode cX11_tell 47 = .ok (.iload_n 2, 1) := by decide +kernel
theorem dX11_tell_48 : decode cX11_tell 48 = .ok (.iload_n 3, 1) := by decide +kernel
theorem dX11_tell_49 : decode cX11_tell 49 = .ok (.invokevirtual 348, 3) := by decide +kernel
theorem dX11_tell_52 : decode cX11_tell 52 = .ok (.ireturn, 1) := by decide +kernel
theorem dX11_needs_0 : decode cX11_needs 0 = .ok (.aload_n 0, 1) := by decide +kernel
theorem dX11_needs_1 : decode cX11_needs 1 = .ok (.getfield 10, 3) := by decide +kernel
theorem dX11_needs_4 : decode cX11_needs 4 = .ok (.iload_n 1, 1) := by decide +kernel
theorem dX11_needs_5 : decode cX11_needs 5 = .ok (.invokevirtual 126, 3) := by decide +kernel
theorem dX11_needs_8 : decode cX11_needs 8 = .ok (.ifCond .eq 15, 3) := by decide +kernel
theorem dX11_needs_11 : decode cX11_needs 11 = .ok (.iload_n 2, 1) := by decide +kernel
theorem dX11_needs_12 : decode cX11_needs 12 = .ok (.ifCond .lt 11, 3) := by decide +kernel
theorem dX11_needs_15 : decode cX11_needs 15 = .ok (.iload_n 2, 1) := by decide +kernel
theorem dX11_needs_16 : decode cX11_needs 16 = .ok (.iconst 3, 1) := by decide +kernel
theorem dX11_needs_17 : decode cX11_needs 17 = .ok (.invokestatic 345, 3) := by decide +kernel
theorem dX11_needs_20 : decode cX11_needs 20 = .ok (.if_icmp .le 6, 3) := by decide +kernel
theorem dX11_needs_23 : decode cX11_needs 23 = .ok (.bipush (-2), 2) := by decide +kernel
theorem dX11_needs_25 : decode cX11_needs 25 = .ok (.ireturn, 1) := by decide +kernel
theorem dX11_needs_26 : decode cX11_needs 26 = .ok (.aload_n 0, 1) := by decide +kernel
theorem dX11_needs_27 : decode cX11_needs 27 = .ok (.getfield 31, 3) := by decide +kernel
theorem dX11_needs_30 : decode cX11_needs 30 = .ok (.invokevirtual 107, 3) := by decide +kernel
theorem dX11_needs_33 : decode cX11_needs 33 = .ok (.aload_n 0, 1) := by decide +kernel
theorem dX11_needs_34 : decode cX11_needs 34 = .ok (.getfield 10, 3) := by decide +kernel
theorem dX11_needs_37 : decode cX11_needs 37 = .ok (.iload_n 1, 1) := by decide +kernel
theorem dX11_needs_38 : decode cX11_needs 38 = .ok (.iconst 3, 1) := by decide +kernel
theorem dX11_needs_39 : decode cX11_needs 39 = .ok (.iload_n 2, 1) := by decide +kernel
theorem dX11_needs_40 : decode cX11_needs 40 = .ok (.invokevirtual 348, 3) := by decide +kernel
theorem dX11_needs_43 : decode cX11_needs 43 = .ok (.ireturn, 1) := by decide +kernel
theorem dX11_undo_0 : decode cX11_undo 0 = .ok (.aload_n 0, 1) := by decide +kernel
theorem dX11_undo_1 : decode cX11_undo 1 = .ok (.getfield 10, 3) := by decide +kernel
theorem dX11_undo_4 : decode cX11_undo 4 = .ok (.invokevirtual 133, 3) := by decide +kernel
theorem dX11_undo_7 : decode cX11_undo 7 = .ok (.ifCond .ne 6, 3) := by decide +kernel
theorem dX11_undo_10 : decode cX11_undo 10 = .ok (.bipush (-2), 2) := by decide +kernel
theorem dX11_undo_12 : decode cX11_undo 12 = .ok (.ireturn, 1) := by decide +kernel
theorem dX11_undo_13 : decode cX11_undo 13 = .ok (.aload_n 0, 1) := by decide +kernel
theorem dX11_undo_14 : decode cX11_undo 14 = .ok (.getfield 31, 3) := by decide +kernel
theorem dX11_undo_17 : decode cX11_undo 17 = .ok (.invokevirtual 107, 3) := by decide +kernel
theorem dX11_undo_20 : decode cX11_undo 20 = .ok (.aload_n 0, 1) := by decide +kernel
theorem dX11_undo_21 : decode cX11_undo 21 = .ok (.getfield 10, 3) := by decide +kernel
theorem dX11_undo_24 : decode cX11_undo 24 = .ok (.invokevirtual 351, 3) := by decide +kernel
theorem dX11_undo_27 : decode cX11_undo 27 = .ok (.ireturn, 1) := by decide +kernel
theorem dX11_drawn_0 : decode cX11_drawn 0 = .ok (.aload_n 0, 1) := by decide +kernel
theorem dX11_drawn_1 : decode cX11_drawn 1 = .ok (.iload_n 1, 1) := by decide +kernel
theorem dX11_drawn_2 : decode cX11_drawn 2 = .ok (.invokevirtual 354, 3) := by decide +kernel
theorem dX11_drawn_5 : decode cX11_drawn 5 = .ok (.ifCond .eq 12, 3) := by decide +kernel
theorem dX11_drawn_8 : decode cX11_drawn 8 = .ok (.iload_n 2, 1) := by decide +kernel
theorem dX11_drawn_9 : decode cX11_drawn 9 = .ok (.ifCond .lt 8, 3) := by decide +kernel
theorem dX11_drawn_12 : decode cX11_drawn 12 = .ok (.iload_n 2, 1) := by decide +kernel
theorem dX11_drawn_13 : decode cX11_drawn 13 = .ok (.iconst 2, 1) := by decide +kernel
theorem dX11_drawn_14 : decode cX11_drawn 14 = .ok (.if_icmp .le 6, 3) := by decide +kernel
theorem dX11_drawn_17 : decode cX11_drawn 17 = .ok (.bipush (-2), 2) := by decide +kernel
theorem dX11_drawn_19 : decode cX11_drawn 19 = .ok (.ireturn, 1) := by decide +kernel
theorem dX11_drawn_20 : decode cX11_drawn 20 = .ok (.aload_n 0, 1) := by decide +kernel
theorem dX11_drawn_21 : decode cX11_drawn 21 = .ok (.getfield 10, 3) := by decide +kernel
theorem dX11_drawn_24 : decode cX11_drawn 24 = .ok (.iload_n 1, 1) := by decide +kernel
theorem dX11_drawn_25 : decode cX11_drawn 25 = .ok (.invokestatic 357, 3) := by decide +kernel
theorem dX11_drawn_28 : decode cX11_drawn 28 = .ok (.istore_n 3, 1) := by decide +kernel
theorem dX11_drawn_29 : decode cX11_drawn 29 = .ok (.iload_n 2, 1) := by decide +kernel
theorem dX11_drawn_30 : decode cX11_drawn 30 = .ok (.ifCond .ne 5, 3) := by decide +kernel
theorem dX11_drawn_33 : decode cX11_drawn 33 = .ok (.iload_n 3, 1) := by decide +kernel
theorem dX11_drawn_34 : decode cX11_drawn 34 = .ok (.ireturn, 1) := by decide +kernel
theorem dX11_drawn_35 : decode cX11_drawn 35 = .ok (.iload_n 2, 1) := by decide +kernel
theorem dX11_drawn_36 : decode cX11_drawn 36 = .ok (.iconst 1, 1) := by decide +kernel
theorem dX11_drawn_37 : decode cX11_drawn 37 = .ok (.if_icmp .ne 21, 3) := by decide +kernel
theorem dX11_drawn_40 : decode cX11_drawn 40 = .ok (.iload_n 3, 1) := by decide +kernel
theorem dX11_drawn_41 : decode cX11_drawn 41 = .ok (.iconst (-1), 1) := by decide +kernel
theorem dX11_drawn_42 : decode cX11_drawn 42 = .ok (.if_icmp .ne 7, 3) := by decide +kernel
theorem dX11_drawn_45 : decode cX11_drawn 45 = .ok (.iconst (-1), 1) := by decide +kernel
theorem dX11_drawn_46 : decode cX11_drawn 46 = .ok (.goto 11, 3) := by decide +kernel
theorem dX11_drawn_49 : decode cX11_drawn 49 = .ok (.aload_n 0, 1) := by decide +kernel
theorem dX11_drawn_50 : decode cX11_drawn 50 = .ok (.getfield 31, 3) := by decide +kernel
theorem dX11_drawn_53 : decode cX11_drawn 53 = .ok (.iload_n 3, 1) := by decide +kernel
theorem dX11_drawn_54 : decode cX11_drawn 54 = .ok (.invokevirtual 171, 3) := by decide +kernel
theorem dX11_drawn_57 : decode cX11_drawn 57 = .ok (.ireturn, 1) := by decide +kernel
theorem dX11_drawn_58 : decode cX11_drawn 58 = .ok (.iload_n 3, 1) := by decide +kernel
theorem dX11_drawn_59 : decode cX11_drawn 59 = .ok (.iconst (-1), 1) := by decide +kernel
theorem dX11_drawn_60 : decode cX11_drawn 60 = .ok (.if_icmp .ne 5, 3) := by decide +kernel
theorem dX11_drawn_63 : decode cX11_drawn 63 = .ok (.iconst 0, 1) := by decide +kernel
theorem dX11_drawn_64 : decode cX11_drawn 64 = .ok (.ireturn, 1) := by decide +kernel
theorem dX11_drawn_65 : decode cX11_drawn 65 = .ok (.aload_n 0, 1) := by decide +kernel
theorem dX11_drawn_66 : decode cX11_drawn 66 = .ok (.getfield 31, 3) := by decide +kernel
theorem dX11_drawn_69 : decode cX11_drawn 69 = .ok (.iload_n 3, 1) := by decide +kernel
theorem dX11_drawn_70 : decode cX11_drawn 70 = .ok (.invokevirtual 162, 3) := by decide +kernel
theorem dX11_drawn_73 : decode cX11_drawn 73 = .ok (.aload_n 0, 1) := by decide +kernel
theorem dX11_drawn_74 : decode cX11_drawn 74 = .ok (.getfield 31, 3) := by decide +kernel
theorem dX11_drawn_77 : decode cX11_drawn 77 = .ok (.aload_n 0, 1) := by decide +kernel
theorem dX11_drawn_78 : decode cX11_drawn 78 = .ok (.getfield 10, 3) := by decide +kernel
theorem dX11_drawn_81 : decode cX11_drawn 81 = .ok (.getfield 137, 3) := by decide +kernel
theorem dX11_drawn_84 : decode cX11_drawn 84 = .ok (.invokevirtual 165, 3) := by decide +kernel
theorem dX11_drawn_87 : decode cX11_drawn 87 = .ok (.ireturn, 1) := by decide +kernel
theorem dX11_luck_0 : decode cX11_luck 0 = .ok (.aload_n 0, 1) := by decide +kernel
theorem dX11_luck_1 : decode cX11_luck 1 = .ok (.iload_n 1, 1) := by decide +kernel
theorem dX11_luck_2 : decode cX11_luck 2 = .ok (.invokevirtual 354, 3) := by decide +kernel
theorem dX11_luck_5 : decode cX11_luck 5 = .ok (.ifCond .eq 25, 3) := by decide +kernel
theorem dX11_luck_8 : decode cX11_luck 8 = .ok (.iload_n 2, 1) := by decide +kernel
theorem dX11_luck_9 : decode cX11_luck 9 = .ok (.iconst 1, 1) := by decide +kernel
theorem dX11_luck_10 : decode cX11_luck 10 = .ok (.if_icmp .lt 20, 3) := by decide +kernel
theorem dX11_luck_13 : decode cX11_luck 13 = .ok (.iload_n 2, 1) := by decide +kernel
theorem dX11_luck_14 : decode cX11_luck 14 = .ok (.bipush 20, 2) := by decide +kernel
theorem dX11_luck_16 : decode cX11_luck 16 = .ok (.if_icmp .gt 14, 3) := by decide +kernel
theorem dX11_luck_19 : decode cX11_luck 19 = .ok (.aload_n 0, 1) := by decide +kernel
theorem dX11_luck_20 : decode cX11_luck 20 = .ok (.getfield 10, 3) := by decide +kernel
theorem dX11_luck_23 : decode cX11_luck 23 = .ok (.iload_n 3, 1) := by decide +kernel
theorem dX11_luck_24 : decode cX11_luck 24 = .ok (.invokevirtual 126, 3) := by decide +kernel
theorem dX11_luck_27 : decode cX11_luck 27 = .ok (.ifCond .ne 6, 3) := by decide +kernel
theorem dX11_luck_30 : decode cX11_luck 30 = .ok (.bipush (-2), 2) := by decide +kernel
theorem dX11_luck_32 : decode cX11_luck 32 = .ok (.ireturn, 1) := by decide +kernel
theorem dX11_luck_33 : decode cX11_luck 33 = .ok (.iconst 0, 1) := by decide +kernel
theorem dX11_luck_34 : decode cX11_luck 34 = .ok (.istore 4, 2) := by decide +kernel
theorem dX11_luck_36 : decode cX11_luck 36 = .ok (.iconst 0, 1) := by decide +kernel
theorem dX11_luck_37 : decode cX11_luck 37 = .ok (.istore 5, 2) := by decide +kernel
theorem dX11_luck_39 : decode cX11_luck 39 = .ok (.iload 5, 2) := by decide +kernel
theorem dX11_luck_41 : decode cX11_luck 41 = .ok (.iload_n 2, 1) := by decide +kernel
theorem dX11_luck_42 : decode cX11_luck 42 = .ok (.if_icmp .ge 44, 3) := by decide +kernel
theorem dX11_luck_45 : decode cX11_luck 45 = .ok (.aload_n 0, 1) := by decide +kernel
theorem dX11_luck_46 : decode cX11_luck 46 = .ok (.getfield 10, 3) := by decide +kernel
theorem dX11_luck_49 : decode cX11_luck 49 = .ok (.iload_n 1, 1) := by decide +kernel
theorem dX11_luck_50 : decode cX11_luck 50 = .ok (.iload 5, 2) := by decide +kernel
theorem dX11_luck_52 : decode cX11_luck 52 = .ok (.iadd, 1) := by decide +kernel
theorem dX11_luck_53 : decode cX11_luck 53 = .ok (.invokestatic 357, 3) := by decide +kernel
theorem dX11_luck_56 : decode cX11_luck 56 = .ok (.istore 6, 2) := by decide +kernel
theorem dX11_luck_58 : decode cX11_luck 58 = .ok (.iload 6, 2) := by decide +kernel
theorem dX11_luck_60 : decode cX11_luck 60 = .ok (.iconst (-1), 1) := by decide +kernel
theorem dX11_luck_61 : decode cX11_luck 61 = .ok (.if_icmp .eq 19, 3) := by decide +kernel
theorem dX11_luck_64 : decode cX11_luck 64 = .ok (.aload_n 0, 1) := by decide +kernel
theorem dX11_luck_65 : decode cX11_luck 65 = .ok (.getfield 31, 3) := by decide +kernel
theorem dX11_luck_68 : decode cX11_luck 68 = .ok (.iload 6, 2) := by decide +kernel
theorem dX11_luck_70 : decode cX11_luck 70 = .ok (.invokevirtual 171, 3) := by decide +kernel
theorem dX11_luck_73 : decode cX11_luck 73 = .ok (.iload_n 3, 1) := by decide +kernel
theorem dX11_luck_74 : decode cX11_luck 74 = .ok (.if_icmp .ne 6, 3) := by decide +kernel
theorem dX11_luck_77 : decode cX11_luck 77 = .ok (.iinc 4 1, 3) := by decide +kernel
theorem dX11_luck_80 : decode cX11_luck 80 = .ok (.iinc 5 1, 3) := by decide +kernel
theorem dX11_luck_83 : decode cX11_luck 83 = .ok (.goto (-44), 3) := by decide +kernel
theorem dX11_luck_86 : decode cX11_luck 86 = .ok (.iload 4, 2) := by decide +kernel
theorem dX11_luck_88 : decode cX11_luck 88 = .ok (.ireturn, 1) := by decide +kernel
theorem dX11_count_0 : decode cX11_count 0 = .ok (.iload_n 1, 1) := by decide +kernel
theorem dX11_count_1 : decode cX11_count 1 = .ok (.tableswitch 189 0 12 #[67, 75, 83, 91, 99, 110, 121, 132, 143, 154, 162, 170, 181], 67) := by decide +kernel
theorem dX11_count_68 : decode cX11_count 68 = .ok (.aload_n 0, 1) := by decide +kernel
theorem dX11_count_69 : decode cX11_count 69 = .ok (.getfield 10, 3) := by decide +kernel
theorem dX11_count_72 : decode cX11_count 72 = .ok (.getfield 137, 3) := by decide +kernel
theorem dX11_count_75 : decode cX11_count 75 = .ok (.ireturn, 1) := by decide +kernel
theorem dX11_count_76 : decode cX11_count 76 = .ok (.aload_n 0, 1) := by decide +kernel
theorem dX11_count_77 : decode cX11_count 77 = .ok (.getfield 10, 3) := by decide +kernel
theorem dX11_count_80 : decode cX11_count 80 = .ok (.getfield 361, 3) := by decide +kernel
theorem dX11_count_83 : decode cX11_count 83 = .ok (.ireturn, 1) := by decide +kernel
theorem dX11_count_84 : decode cX11_count 84 = .ok (.aload_n 0, 1) := by decide +kernel
theorem dX11_count_85 : decode cX11_count 85 = .ok (.getfield 10, 3) := by decide +kernel
theorem dX11_count_88 : decode cX11_count 88 = .ok (.getfield 364, 3) := by decide +kernel
theorem dX11_count_91 : decode cX11_count 91 = .ok (.ireturn, 1) := by decide +kernel
theorem dX11_count_92 : decode cX11_count 92 = .ok (.aload_n 0, 1) := by decide +kernel
theorem dX11_count_93 : decode cX11_count 93 = .ok (.getfield 10, 3) := by decide +kernel
theorem dX11_count_96 : decode cX11_count 96 = .ok (.getfield 329, 3) := by decide +kernel
theorem dX11_count_99 : decode cX11_count 99 = .ok (.ireturn, 1) := by decide +kernel
theorem dX11_count_100 : decode cX11_count 100 = .ok (.aload_n 0, 1) := by decide +kernel
theorem dX11_count_101 : decode cX11_count 101 = .ok (.getfield 10, 3) := by decide +kernel
theorem dX11_count_104 : decode cX11_count 104 = .ok (.getfield 116, 3) := by decide +kernel
theorem dX11_count_107 : decode cX11_count 107 = .ok (.getfield 222, 3) := by decide +kernel
theorem dX11_count_110 : decode cX11_count 110 = .ok (.ireturn, 1) := by decide +kernel
theorem dX11_count_111 : decode cX11_count 111 = .ok (.aload_n 0, 1) := by decide +kernel
theorem dX11_count_112 : decode cX11_count 112 = .ok (.getfield 10, 3) := by decide +kernel
theorem dX11_count_115 : decode cX11_count 115 = .ok (.getfield 367, 3) := by decide +kernel
theorem dX11_count_118 : decode cX11_count 118 = .ok (.getfield 222, 3) := by decide +kernel
theorem dX11_count_121 : decode cX11_count 121 = .ok (.ireturn, 1) := by decide +kernel
theorem dX11_count_122 : decode cX11_count 122 = .ok (.aload_n 0, 1) := by decide +kernel
theorem dX11_count_123 : decode cX11_count 123 = .ok (.getfield 10, 3) := by decide +kernel
theorem dX11_count_126 : decode cX11_count 126 = .ok (.getfield 143, 3) := by decide +kernel
theorem dX11_count_129 : decode cX11_count 129 = .ok (.getfield 222, 3) := by decide +kernel
theorem dX11_count_132 : decode cX11_count 132 = .ok (.ireturn, 1) := by decide +kernel
theorem dX11_count_133 : decode cX11_count 133 = .ok (.aload_n 0, 1) := by decide +kernel
theorem dX11_count_134 : decode cX11_count 134 = .ok (.getfield 10, 3) := by decide +kernel
theorem dX11_count_137 : decode cX11_count 137 = .ok (.getfield 146, 3) := by decide +kernel
theorem dX11_count_140 : decode cX11_count 140 = .ok (.getfield 222, 3) := by decide +kernel
theorem dX11_count_143 : decode cX11_count 143 = .ok (.ireturn, 1) := by decide +kernel
theorem dX11_count_144 : decode cX11_count 144 = .ok (.aload_n 0, 1) := by decide +kernel
theorem dX11_count_145 : decode cX11_count 145 = .ok (.getfield 10, 3) := by decide +kernel
theorem dX11_count_148 : decode cX11_count 148 = .ok (.getfield 149, 3) := by decide +kernel
theorem dX11_count_151 : decode cX11_count 151 = .ok (.getfield 222, 3) := by decide +kernel
theorem dX11_count_154 : decode cX11_count 154 = .ok (.ireturn, 1) := by decide +kernel
theorem dX11_count_155 : decode cX11_count 155 = .ok (.aload_n 0, 1) := by decide +kernel
theorem dX11_count_156 : decode cX11_count 156 = .ok (.getfield 10, 3) := by decide +kernel
theorem dX11_count_159 : decode cX11_count 159 = .ok (.getfield 110, 3) := by decide +kernel
theorem dX11_count_162 : decode cX11_count 162 = .ok (.ireturn, 1) := by decide +kernel
theorem dX11_count_163 : decode cX11_count 163 = .ok (.aload_n 0, 1) := by decide +kernel
theorem dX11_count_164 : decode cX11_count 164 = .ok (.getfield 24, 3) := by decide +kernel
theorem dX11_count_167 : decode cX11_count 167 = .ok (.getfield 91, 3) := by decide +kernel
theorem dX11_count_170 : decode cX11_count 170 = .ok (.ireturn, 1) := by decide +kernel
theorem dX11_count_171 : decode cX11_count 171 = .ok (.aload_n 0, 1) := by decide +kernel
theorem dX11_count_172 : decode cX11_count 172 = .ok (.getfield 10, 3) := by decide +kernel
theorem dX11_count_175 : decode cX11_count 175 = .ok (.getfield 370, 3) := by decide +kernel
theorem dX11_count_178 : decode cX11_count 178 = .ok (.getfield 222, 3) := by decide +kernel
theorem dX11_count_181 : decode cX11_count 181 = .ok (.ireturn, 1) := by decide +kernel
theorem dX11_count_182 : decode cX11_count 182 = .ok (.aload_n 0, 1) := by decide +kernel
theorem dX11_count_183 : decode cX11_count 183 = .ok (.getfield 75, 3) := by decide +kernel
theorem dX11_count_186 : decode cX11_count 186 = .ok (.invokevirtual 373, 3) := by decide +kernel
theorem dX11_count_189 : decode cX11_count 189 = .ok (.ireturn, 1) := by decide +kernel
theorem dX11_count_190 : decode cX11_count 190 = .ok (.iconst (-1), 1) := by decide +kernel
theorem dX11_count_191 : decode cX11_count 191 = .ok (.ireturn, 1) := by decide +kernel
theorem dX11_image_0 : decode cX11_image 0 = .ok (.iload_n 1, 1) := by decide +kernel
theorem dX11_image_1 : decode cX11_image 1 = .ok (.invokestatic 376, 3) := by decide +kernel
theorem dX11_image_4 : decode cX11_image 4 = .ok (.ifCond .ne 6, 3) := by decide +kernel
theorem dX11_image_7 : decode cX11_image 7 = .ok (.bipush (-2), 2) := by decide +kernel
theorem dX11_image_9 : decode cX11_image 9 = .ok (.ireturn, 1) := by decide +kernel
theorem dX11_image_10 : decode cX11_image 10 = .ok (.aload_n 0, 1) := by decide +kernel
theorem dX11_image_11 : decode cX11_image 11 = .ok (.getfield 79, 3) := by decide +kernel
theorem dX11_image_14 : decode cX11_image 14 = .ok (.iload_n 1, 1) := by decide +kernel
theorem dX11_image_15 : decode cX11_image 15 = .ok (.aaload, 1) := by decide +kernel
theorem dX11_image_16 : decode cX11_image 16 = .ok (.astore_n 2, 1) := by decide +kernel
theorem dX11_image_17 : decode cX11_image 17 = .ok (.aload_n 2, 1) := by decide +kernel
theorem dX11_image_18 : decode cX11_image 18 = .ok (.ifnonnull 18, 3) := by decide +kernel
theorem dX11_image_21 : decode cX11_image 21 = .ok (.new 7, 3) := by decide +kernel
theorem dX11_image_24 : decode cX11_image 24 = .ok (.dup, 1) := by decide +kernel
theorem dX11_image_25 : decode cX11_image 25 = .ok (.invokespecial 9, 3) := by decide +kernel
theorem dX11_image_28 : decode cX11_image 28 = .ok (.astore_n 2, 1) := by decide +kernel
theorem dX11_image_29 : decode cX11_image 29 = .ok (.aload_n 0, 1) := by decide +kernel
theorem dX11_image_30 : decode cX11_image 30 = .ok (.getfield 79, 3) := by decide +kernel
theorem dX11_image_33 : decode cX11_image 33 = .ok (.iload_n 1, 1) := by decide +kernel
theorem dX11_image_34 : decode cX11_image 34 = .ok (.aload_n 2, 1) := by decide +kernel
theorem dX11_image_35 : decode cX11_image 35 = .ok (.aastore, 1) := by decide +kernel
theorem dX11_image_36 : decode cX11_image 36 = .ok (.aload_n 2, 1) := by decide +kernel
theorem dX11_image_37 : decode cX11_image 37 = .ok (.aload_n 0, 1) := by decide +kernel
theorem dX11_image_38 : decode cX11_image 38 = .ok (.getfield 10, 3) := by decide +kernel
theorem dX11_image_41 : decode cX11_image 41 = .ok (.invokevirtual 104, 3) := by decide +kernel
theorem dX11_image_44 : decode cX11_image 44 = .ok (.iconst 0, 1) := by decide +kernel
theorem dX11_image_45 : decode cX11_image 45 = .ok (.ireturn, 1) := by decide +kernel
theorem dX11_back_0 : decode cX11_back 0 = .ok (.iload_n 1, 1) := by decide +kernel
theorem dX11_back_1 : decode cX11_back 1 = .ok (.invokestatic 376, 3) := by decide +kernel
theorem dX11_back_4 : decode cX11_back 4 = .ok (.ifCond .ne 6, 3) := by decide +kernel
theorem dX11_back_7 : decode cX11_back 7 = .ok (.bipush (-2), 2) := by decide +kernel
theorem dX11_back_9 : decode cX11_back 9 = .ok (.ireturn, 1) := by decide +kernel
theorem dX11_back_10 : decode cX11_back 10 = .ok (.aload_n 0, 1) := by decide +kernel
theorem dX11_back_11 : decode cX11_back 11 = .ok (.getfield 79, 3) := by decide +kernel
theorem dX11_back_14 : decode cX11_back 14 = .ok (.iload_n 1, 1) := by decide +kernel
theorem dX11_back_15 : decode cX11_back 15 = .ok (.aaload, 1) := by decide +kernel
theorem dX11_back_16 : decode cX11_back 16 = .ok (.astore_n 2, 1) := by decide +kernel
theorem dX11_back_17 : decode cX11_back 17 = .ok (.aload_n 2, 1) := by decide +kernel
theorem dX11_back_18 : decode cX11_back 18 = .ok (.ifnonnull 6, 3) := by decide +kernel
theorem dX11_back_21 : decode cX11_back 21 = .ok (.bipush (-6), 2) := by decide +kernel
theorem dX11_back_23 : decode cX11_back 23 = .ok (.ireturn, 1) := by decide +kernel
theorem dX11_back_24 : decode cX11_back 24 = .ok (.aload_n 0, 1) := by decide +kernel
theorem dX11_back_25 : decode cX11_back 25 = .ok (.getfield 10, 3) := by decide +kernel
theorem dX11_back_28 : decode cX11_back 28 = .ok (.aload_n 2, 1) := by decide +kernel
theorem dX11_back_29 : decode cX11_back 29 = .ok (.invokevirtual 104, 3) := by decide +kernel
theorem dX11_back_32 : decode cX11_back 32 = .ok (.aload_n 0, 1) := by decide +kernel
theorem dX11_back_33 : decode cX11_back 33 = .ok (.getfield 31, 3) := by decide +kernel
theorem dX11_back_36 : decode cX11_back 36 = .ok (.invokevirtual 107, 3) := by decide +kernel
theorem dX11_back_39 : decode cX11_back 39 = .ok (.iconst 0, 1) := by decide +kernel
theorem dX11_back_40 : decode cX11_back 40 = .ok (.ireturn, 1) := by decide +kernel
theorem dX11_row_0 : decode cX11_row 0 = .ok (.aload_n 0, 1) := by decide +kernel
theorem dX11_row_1 : decode cX11_row 1 = .ok (.getfield 75, 3) := by decide +kernel
theorem dX11_row_4 : decode cX11_row 4 = .ok (.iload_n 1, 1) := by decide +kernel
theorem dX11_row_5 : decode cX11_row 5 = .ok (.iload_n 2, 1) := by decide +kernel
theorem dX11_row_6 : decode cX11_row 6 = .ok (.iload_n 3, 1) := by decide +kernel
theorem dX11_row_7 : decode cX11_row 7 = .ok (.invokevirtual 379, 3) := by decide +kernel
theorem dX11_row_10 : decode cX11_row 10 = .ok (.ireturn, 1) := by decide +kernel
theorem dX11_write_0 : decode cX11_write 0 = .ok (.aload_n 0, 1) := by decide +kernel
theorem dX11_write_1 : decode cX11_write 1 = .ok (.getfield 75, 3) := by decide +kernel
theorem dX11_write_4 : decode cX11_write 4 = .ok (.iload_n 1, 1) := by decide +kernel
theorem dX11_write_5 : decode cX11_write 5 = .ok (.iload_n 2, 1) := by decide +kernel
theorem dX11_write_6 : decode cX11_write 6 = .ok (.lload_n 3, 1) := by decide +kernel
theorem dX11_write_7 : decode cX11_write 7 = .ok (.invokevirtual 382, 3) := by decide +kernel
theorem dX11_write_10 : decode cX11_write 10 = .ok (.ireturn, 1) := by decide +kernel
theorem dX11_paste_0 : decode cX11_paste 0 = .ok (.aload_n 0, 1) := by decide +kernel
theorem dX11_paste_1 : decode cX11_paste 1 = .ok (.getfield 75, 3) := by decide +kernel
theorem dX11_paste_4 : decode cX11_paste 4 = .ok (.iload_n 1, 1) := by decide +kernel
theorem dX11_paste_5 : decode cX11_paste 5 = .ok (.iload_n 2, 1) := by decide +kernel
theorem dX11_paste_6 : decode cX11_paste 6 = .ok (.iload_n 3, 1) := by decide +kernel
theorem dX11_paste_7 : decode cX11_paste 7 = .ok (.iload 4, 2) := by decide +kernel
theorem dX11_paste_9 : decode cX11_paste 9 = .ok (.iload 5, 2) := by decide +kernel
theorem dX11_paste_11 : decode cX11_paste 11 = .ok (.invokevirtual 386, 3) := by decide +kernel
theorem dX11_paste_14 : decode cX11_paste 14 = .ok (.ireturn, 1) := by decide +kernel
theorem dX11_isMinute_0 : decode cX11_isMinute 0 = .ok (.iload_n 0, 1) := by decide +kernel
theorem dX11_isMinute_1 : decode cX11_isMinute 1 = .ok (.ifCond .lt 13, 3) := by decide +kernel
theorem dX11_isMinute_4 : decode cX11_isMinute 4 = .ok (.iload_n 0, 1) := by decide +kernel
theorem dX11_isMinute_5 : decode cX11_isMinute 5 = .ok (.bipush 99, 2) := by decide +kernel
theorem dX11_isMinute_7 : decode cX11_isMinute 7 = .ok (.if_icmp .gt 7, 3) := by decide +kernel
theorem dX11_isMinute_10 : decode cX11_isMinute 10 = .ok (.iconst 1, 1) := by decide +kernel
theorem dX11_isMinute_11 : decode cX11_isMinute 11 = .ok (.goto 4, 3) := by decide +kernel
theorem dX11_isMinute_14 : decode cX11_isMinute 14 = .ok (.iconst 0, 1) := by decide +kernel
theorem dX11_isMinute_15 : decode cX11_isMinute 15 = .ok (.ireturn, 1) := by decide +kernel
theorem dX11_isPeaceMinute_0 : decode cX11_isPeaceMinute 0 = .ok (.aload_n 0, 1) := by decide +kernel
theorem dX11_isPeaceMinute_1 : decode cX11_isPeaceMinute 1 = .ok (.getfield 10, 3) := by decide +kernel
theorem dX11_isPeaceMinute_4 : decode cX11_isPeaceMinute 4 = .ok (.invokevirtual 133, 3) := by decide +kernel
theorem dX11_isPeaceMinute_7 : decode cX11_isPeaceMinute 7 = .ok (.ifCond .eq 17, 3) := by decide +kernel
theorem dX11_isPeaceMinute_10 : decode cX11_isPeaceMinute 10 = .ok (.iload_n 1, 1) := by decide +kernel
theorem dX11_isPeaceMinute_11 : decode cX11_isPeaceMinute 11 = .ok (.ifCond .lt 13, 3) := by decide +kernel
theorem dX11_isPeaceMinute_14 : decode cX11_isPeaceMinute 14 = .ok (.iload_n 1, 1) := by decide +kernel
theorem dX11_isPeaceMinute_15 : decode cX11_isPeaceMinute 15 = .ok (.bipush 59, 2) := by decide +kernel
theorem dX11_isPeaceMinute_17 : decode cX11_isPeaceMinute 17 = .ok (.if_icmp .gt 7, 3) := by decide +kernel
theorem dX11_isPeaceMinute_20 : decode cX11_isPeaceMinute 20 = .ok (.iconst 1, 1) := by decide +kernel
theorem dX11_isPeaceMinute_21 : decode cX11_isPeaceMinute 21 = .ok (.goto 4, 3) := by decide +kernel
theorem dX11_isPeaceMinute_24 : decode cX11_isPeaceMinute 24 = .ok (.iconst 0, 1) := by decide +kernel
theorem dX11_isPeaceMinute_25 : decode cX11_isPeaceMinute 25 = .ok (.ireturn, 1) := by decide +kernel
theorem dX11_isPart_0 : decode cX11_isPart 0 = .ok (.iload_n 0, 1) := by decide +kernel
theorem dX11_isPart_1 : decode cX11_isPart 1 = .ok (.ifCond .eq 8, 3) := by decide +kernel
theorem dX11_isPart_4 : decode cX11_isPart 4 = .ok (.iload_n 0, 1) := by decide +kernel
theorem dX11_isPart_5 : decode cX11_isPart 5 = .ok (.iconst 1, 1) := by decide +kernel
theorem dX11_isPart_6 : decode cX11_isPart 6 = .ok (.if_icmp .ne 7, 3) := by decide +kernel
theorem dX11_isPart_9 : decode cX11_isPart 9 = .ok (.iconst 1, 1) := by decide +kernel
theorem dX11_isPart_10 : decode cX11_isPart 10 = .ok (.goto 4, 3) := by decide +kernel
theorem dX11_isPart_13 : decode cX11_isPart 13 = .ok (.iconst 0, 1) := by decide +kernel
theorem dX11_isPart_14 : decode cX11_isPart 14 = .ok (.ireturn, 1) := by decide +kernel
theorem dX11_isPercent_0 : decode cX11_isPercent 0 = .ok (.iload_n 0, 1) := by decide +kernel
theorem dX11_isPercent_1 : decode cX11_isPercent 1 = .ok (.ifCond .lt 13, 3) := by decide +kernel
theorem dX11_isPercent_4 : decode cX11_isPercent 4 = .ok (.iload_n 0, 1) := by decide +kernel
theorem dX11_isPercent_5 : decode cX11_isPercent 5 = .ok (.bipush 100, 2) := by decide +kernel
theorem dX11_isPercent_7 : decode cX11_isPercent 7 = .ok (.if_icmp .gt 7, 3) := by decide +kernel
theorem dX11_isPercent_10 : decode cX11_isPercent 10 = .ok (.iconst 1, 1) := by decide +kernel
theorem dX11_isPercent_11 : decode cX11_isPercent 11 = .ok (.goto 4, 3) := by decide +kernel
theorem dX11_isPercent_14 : decode cX11_isPercent 14 = .ok (.iconst 0, 1) := by decide +kernel
theorem dX11_isPercent_15 : decode cX11_isPercent 15 = .ok (.ireturn, 1) := by decide +kernel
theorem dX11_isRisk_0 : decode cX11_isRisk 0 = .ok (.aload_n 0, 1) := by decide +kernel
theorem dX11_isRisk_1 : decode cX11_isRisk 1 = .ok (.getfield 10, 3) := by decide +kernel
theorem dX11_isRisk_4 : decode cX11_isRisk 4 = .ok (.iload_n 1, 1) := by decide +kernel
theorem dX11_isRisk_5 : decode cX11_isRisk 5 = .ok (.invokevirtual 126, 3) := by decide +kernel
theorem dX11_isRisk_8 : decode cX11_isRisk 8 = .ok (.ifCond .eq 14, 3) := by decide +kernel
theorem dX11_isRisk_11 : decode cX11_isRisk 11 = .ok (.iload_n 2, 1) := by decide +kernel
theorem dX11_isRisk_12 : decode cX11_isRisk 12 = .ok (.invokestatic 336, 3) := by decide +kernel
theorem dX11_isRisk_15 : decode cX11_isRisk 15 = .ok (.ifCond .eq 7, 3) := by decide +kernel
theorem dX11_isRisk_18 : decode cX11_isRisk 18 = .ok (.iconst 1, 1) := by decide +kernel
theorem dX11_isRisk_19 : decode cX11_isRisk 19 = .ok (.goto 4, 3) := by decide +kernel
theorem dX11_isRisk_22 : decode cX11_isRisk 22 = .ok (.iconst 0, 1) := by decide +kernel
theorem dX11_isRisk_23 : decode cX11_isRisk 23 = .ok (.ireturn, 1) := by decide +kernel
theorem dX11_isPurse_0 : decode cX11_isPurse 0 = .ok (.aload_n 0, 1) := by decide +kernel
theorem dX11_isPurse_1 : decode cX11_isPurse 1 = .ok (.getfield 10, 3) := by decide +kernel
theorem dX11_isPurse_4 : decode cX11_isPurse 4 = .ok (.iload_n 1, 1) := by decide +kernel
theorem dX11_isPurse_5 : decode cX11_isPurse 5 = .ok (.invokevirtual 126, 3) := by decide +kernel
theorem dX11_isPurse_8 : decode cX11_isPurse 8 = .ok (.ifCond .eq 18, 3) := by decide +kernel
theorem dX11_isPurse_11 : decode cX11_isPurse 11 = .ok (.iload_n 2, 1) := by decide +kernel
theorem dX11_isPurse_12 : decode cX11_isPurse 12 = .ok (.ifCond .lt 14, 3) := by decide +kernel
theorem dX11_isPurse_15 : decode cX11_isPurse 15 = .ok (.iload_n 2, 1) := by decide +kernel
theorem dX11_isPurse_16 : decode cX11_isPurse 16 = .ok (.sipush 999, 3) := by decide +kernel
theorem dX11_isPurse_19 : decode cX11_isPurse 19 = .ok (.if_icmp .gt 7, 3) := by decide +kernel
theorem dX11_isPurse_22 : decode cX11_isPurse 22 = .ok (.iconst 1, 1) := by decide +kernel
theorem dX11_isPurse_23 : decode cX11_isPurse 23 = .ok (.goto 4, 3) := by decide +kernel
theorem dX11_isPurse_26 : decode cX11_isPurse 26 = .ok (.iconst 0, 1) := by decide +kernel
theorem dX11_isPurse_27 : decode cX11_isPurse 27 = .ok (.ireturn, 1) := by decide +kernel
theorem dX11_isHost_0 : decode cX11_isHost 0 = .ok (.iload_n 0, 1) := by decide +kernel
theorem dX11_isHost_1 : decode cX11_isHost 1 = .ok (.ifCond .lt 13, 3) := by decide +kernel
theorem dX11_isHost_4 : decode cX11_isHost 4 = .ok (.iload_n 0, 1) := by decide +kernel
theorem dX11_isHost_5 : decode cX11_isHost 5 = .ok (.bipush 9, 2) := by decide +kernel
theorem dX11_isHost_7 : decode cX11_isHost 7 = .ok (.if_icmp .gt 7, 3) := by decide +kernel
theorem dX11_isHost_10 : decode cX11_isHost 10 = .ok (.iconst 1, 1) := by decide +kernel
theorem dX11_isHost_11 : decode cX11_isHost 11 = .ok (.goto 4, 3) := by decide +kernel
theorem dX11_isHost_14 : decode cX11_isHost 14 = .ok (.iconst 0, 1) := by decide +kernel
theorem dX11_isHost_15 : decode cX11_isHost 15 = .ok (.ireturn, 1) := by decide +kernel
theorem dX11_isPlace_0 : decode cX11_isPlace 0 = .ok (.iload_n 0, 1) := by decide +kernel
theorem dX11_isPlace_1 : decode cX11_isPlace 1 = .ok (.ifCond .lt 12, 3) := by decide +kernel
theorem dX11_isPlace_4 : decode cX11_isPlace 4 = .ok (.iload_n 0, 1) := by decide +kernel
theorem dX11_isPlace_5 : decode cX11_isPlace 5 = .ok (.iconst 3, 1) := by decide +kernel
theorem dX11_isPlace_6 : decode cX11_isPlace 6 = .ok (.if_icmp .ge 7, 3) := by decide +kernel
theorem dX11_isPlace_9 : decode cX11_isPlace 9 = .ok (.iconst 1, 1) := by decide +kernel
theorem dX11_isPlace_10 : decode cX11_isPlace 10 = .ok (.goto 4, 3) := by decide +kernel
theorem dX11_isPlace_13 : decode cX11_isPlace 13 = .ok (.iconst 0, 1) := by decide +kernel
theorem dX11_isPlace_14 : decode cX11_isPlace 14 = .ok (.ireturn, 1) := by decide +kernel
theorem dX11_isSeed_0 : decode cX11_isSeed 0 = .ok (.aload_n 0, 1) := by decide +kernel
theorem dX11_isSeed_1 : decode cX11_isSeed 1 = .ok (.getfield 10, 3) := by decide +kernel
theorem dX11_isSeed_4 : decode cX11_isSeed 4 = .ok (.invokevirtual 133, 3) := by decide +kernel
theorem dX11_isSeed_7 : decode cX11_isSeed 7 = .ok (.ifCond .eq 18, 3) := by decide +kernel
theorem dX11_isSeed_10 : decode cX11_isSeed 10 = .ok (.iload_n 1, 1) := by decide +kernel
theorem dX11_isSeed_11 : decode cX11_isSeed 11 = .ok (.ifCond .lt 14, 3) := by decide +kernel
theorem dX11_isSeed_14 : decode cX11_isSeed 14 = .ok (.iload_n 1, 1) := by decide +kernel
theorem dX11_isSeed_15 : decode cX11_isSeed 15 = .ok (.ldc_w 390, 3) := by decide +kernel
theorem dX11_isSeed_18 : decode cX11_isSeed 18 = .ok (.if_icmp .gt 7, 3) := by decide +kernel
theorem dX11_isSeed_21 : decode cX11_isSeed 21 = .ok (.iconst 1, 1) := by decide +kernel
theorem dX11_isSeed_22 : decode cX11_isSeed 22 = .ok (.goto 4, 3) := by decide +kernel
theorem dX11_isSeed_25 : decode cX11_isSeed 25 = .ok (.iconst 0, 1) := by decide +kernel
theorem dX11_isSeed_26 : decode cX11_isSeed 26 = .ok (.ireturn, 1) := by decide +kernel
theorem dX11_isImage_0 : decode cX11_isImage 0 = .ok (.iload_n 0, 1) := by decide +kernel
theorem dX11_isImage_1 : decode cX11_isImage 1 = .ok (.ifCond .lt 12, 3) := by decide +kernel
theorem dX11_isImage_4 : decode cX11_isImage 4 = .ok (.iload_n 0, 1) := by decide +kernel
theorem dX11_isImage_5 : decode cX11_isImage 5 = .ok (.iconst 3, 1) := by decide +kernel
theorem dX11_isImage_6 : decode cX11_isImage 6 = .ok (.if_icmp .ge 7, 3) := by decide +kernel
theorem dX11_isImage_9 : decode cX11_isImage 9 = .ok (.iconst 1, 1) := by decide +kernel
theorem dX11_isImage_10 : decode cX11_isImage 10 = .ok (.goto 4, 3) := by decide +kernel
theorem dX11_isImage_13 : decode cX11_isImage 13 = .ok (.iconst 0, 1) := by decide +kernel
theorem dX11_isImage_14 : decode cX11_isImage 14 = .ok (.ireturn, 1) := by decide +kernel
theorem dX12_init_0 : decode cX12_init 0 = .ok (.aload_n 0, 1) := by decide +kernel
theorem dX12_init_1 : decode cX12_init 1 = .ok (.invokespecial 3, 3) := by decide +kernel
theorem dX12_init_4 : decode cX12_init 4 = .ok (.aload_n 0, 1) := by decide +kernel
theorem dX12_init_5 : decode cX12_init 5 = .ok (.sipush 240, 3) := by decide +kernel
theorem dX12_init_8 : decode cX12_init 8 = .ok (.newarray .int, 2) := by decide +kernel
theorem dX12_init_10 : decode cX12_init 10 = .ok (.putfield 9, 3) := by decide +kernel
theorem dX12_init_13 : decode cX12_init 13 = .ok (.aload_n 0, 1) := by decide +kernel
theorem dX12_init_14 : decode cX12_init 14 = .ok (.sipush 720, 3) := by decide +kernel
theorem dX12_init_17 : decode cX12_init 17 = .ok (.newarray .int, 2) := by decide +kernel
theorem dX12_init_19 : decode cX12_init 19 = .ok (.putfield 13, 3) := by decide +kernel
theorem dX12_init_22 : decode cX12_init 22 = .ok (.aload_n 0, 1) := by decide +kernel
theorem dX12_init_23 : decode cX12_init 23 = .ok (.iconst 3, 1) := by decide +kernel
theorem dX12_init_24 : decode cX12_init 24 = .ok (.newarray .boolean, 2) := by decide +kernel
theorem dX12_init_26 : decode cX12_init 26 = .ok (.putfield 16, 3) := by decide +kernel
theorem dX12_init_29 : decode cX12_init 29 = .ok (.aload_n 0, 1) := by decide +kernel
theorem dX12_init_30 : decode cX12_init 30 = .ok (.sipush 1200, 3) := by decide +kernel
theorem dX12_init_33 : decode cX12_init 33 = .ok (.newarray .byte, 2) := by decide +kernel
theorem dX12_init_35 : decode cX12_init 35 = .ok (.putfield 20, 3) := by decide +kernel
theorem dX12_init_38 : decode cX12_init 38 = .ok (.aload_n 0, 1) := by decide +kernel
theorem dX12_init_39 : decode cX12_init 39 = .ok (.iconst 5, 1) := by decide +kernel
theorem dX12_init_40 : decode cX12_init 40 = .ok (.newarray .int, 2) := by decide +kernel
theorem dX12_init_42 : decode cX12_init 42 = .ok (.putfield 24, 3) := by decide +kernel
theorem dX12_init_45 : decode cX12_init 45 = .ok (.aload_n 0, 1) := by decide +kernel
theorem dX12_init_46 : decode cX12_init 46 = .ok (.iconst (-1), 1) := by decide +kernel
theorem dX12_init_47 : decode cX12_init 47 = .ok (.putfield 27, 3) := by decide +kernel
theorem dX12_init_50 : decode cX12_init 50 = .ok (.aload_n 0, 1) := by decide +kernel
theorem dX12_init_51 : decode cX12_init 51 = .ok (.sipush 240, 3) := by decide +kernel
theorem dX12_init_54 : decode cX12_init 54 = .ok (.newarray .int, 2) := by decide +kernel
theorem dX12_init_56 : decode cX12_init 56 = .ok (.putfield 31, 3) := by decide +kernel
theorem dX12_init_59 : decode cX12_init 59 = .ok (.aload_n 0, 1) := by decide +kernel
theorem dX12_init_60 : decode cX12_init 60 = .ok (.bipush 61, 2) := by decide +kernel
theorem dX12_init_62 : decode cX12_init 62 = .ok (.newarray .int, 2) := by decide +kernel
theorem dX12_init_64 : decode cX12_init 64 = .ok (.putfield 34, 3) := by decide +kernel
theorem dX12_init_67 : decode cX12_init 67 = .ok (.aload_n 0, 1) := by decide +kernel
theorem dX12_init_68 : decode cX12_init 68 = .ok (.sipush 512, 3) := by decide +kernel
theorem dX12_init_71 : decode cX12_init 71 = .ok (.newarray .int, 2) := by decide +kernel
theorem dX12_init_73 : decode cX12_init 73 = .ok (.putfield 37, 3) := by decide +kernel
theorem dX12_init_76 : decode cX12_init 76 = .ok (.aload_n 0, 1) := by decide +kernel
theorem dX12_init_77 : decode cX12_init 77 = .ok (.sipush 512, 3) := by decide +kernel
theorem dX12_init_80 : decode cX12_init 80 = .ok (.newarray .int, 2) := by decide +kernel
theorem dX12_init_82 : decode cX12_init 82 = .ok (.putfield 40, 3) := by decide +kernel
theorem dX12_init_85 : decode cX12_init 85 = .ok (.aload_n 0, 1) := by decide +kernel
theorem dX12_init_86 : decode cX12_init 86 = .ok (.iconst 3, 1) := by decide +kernel
theorem dX12_init_87 : decode cX12_init 87 = .ok (.newarray .int, 2) := by decide +kernel
theorem dX12_init_89 : decode cX12_init 89 = .ok (.putfield 43, 3) := by decide +kernel
theorem dX12_init_92 : decode cX12_init 92 = .ok (.aload_n 0, 1) := by decide +kernel
theorem dX12_init_93 : decode cX12_init 93 = .ok (.iconst 3, 1) := by decide +kernel
theorem dX12_init_94 : decode cX12_init 94 = .ok (.newarray .int, 2) := by decide +kernel
theorem dX12_init_96 : decode cX12_init 96 = .ok (.putfield 46, 3) := by decide +kernel
theorem dX12_init_99 : decode cX12_init 99 = .ok (.aload_n 0, 1) := by decide +kernel
theorem dX12_init_100 : decode cX12_init 100 = .ok (.iconst 3, 1) := by decide +kernel
theorem dX12_init_101 : decode cX12_init 101 = .ok (.newarray .int, 2) := by decide +kernel
theorem dX12_init_103 : decode cX12_init 103 = .ok (.putfield 49, 3) := by decide +kernel
theorem dX12_init_106 : decode cX12_init 106 = .ok (.aload_n 0, 1) := by decide +kernel
theorem dX12_init_107 : decode cX12_init 107 = .ok (.iconst 4, 1) := by decide +kernel
theorem dX12_init_108 : decode cX12_init 108 = .ok (.newarray .int, 2) := by decide +kernel
theorem dX12_init_110 : decode cX12_init 110 = .ok (.dup, 1) := by decide +kernel
theorem dX12_init_111 : decode cX12_init 111 = .ok (.iconst 0, 1) := by decide +kernel
theorem dX12_init_112 : decode cX12_init 112 = .ok (.iconst (-1), 1) := by decide +kernel
theorem dX12_init_113 : decode cX12_init 113 = .ok (.iastore, 1) := by decide +kernel
theorem dX12_init_114 : decode cX12_init 114 = .ok (.dup, 1) := by decide +kernel
theorem dX12_init_115 : decode cX12_init 115 = .ok (.iconst 1, 1) := by decide +kernel
theorem dX12_init_116 : decode cX12_init 116 = .ok (.iconst (-1), 1) := by decide +kernel
theorem dX12_init_117 : decode cX12_init 117 = .ok (.iastore, 1) := by decide +kernel
theorem dX12_init_118 : decode cX12_init 118 = .ok (.dup, 1) := by decide +kernel
theorem dX12_init_119 : decode cX12_init 119 = .ok (.iconst 2, 1) := by decide +kernel
theorem dX12_init_120 : decode cX12_init 120 = .ok (.iconst (-1), 1) := by decide +kernel
theorem dX12_init_121 : decode cX12_init 121 = .ok (.iastore, 1) := by decide +kernel
theorem dX12_init_122 : decode cX12_init 122 = .ok (.dup, 1) := by decide +kernel
theorem dX12_init_123 : decode cX12_init 123 = .ok (.iconst 3, 1) := by decide +kernel
theorem dX12_init_124 : decode cX12_init 124 = .ok (.iconst (-1), 1) := by decide +kernel
theorem dX12_init_125 : decode cX12_init 125 = .ok (.iastore, 1) := by decide +kernel
theorem dX12_init_126 : decode cX12_init 126 = .ok (.putfield 52, 3) := by decide +kernel
theorem dX12_init_129 : decode cX12_init 129 = .ok (.aload_n 0, 1) := by decide +kernel
theorem dX12_init_130 : decode cX12_init 130 = .ok (.iconst 4, 1) := by decide +kernel
theorem dX12_init_131 : decode cX12_init 131 = .ok (.newarray .int, 2) := by decide +kernel
theorem dX12_init_133 : decode cX12_init 133 = .ok (.putfield 55, 3) := by decide +kernel
theorem dX12_init_136 : decode cX12_init 136 = .ok (.aload_n 0, 1) := by decide +kernel
theorem dX12_init_137 : decode cX12_init 137 = .ok (.sipush 240, 3) := by decide +kernel
theorem dX12_init_140 : decode cX12_init 140 = .ok (.newarray .long, 2) := by decide +kernel
theorem dX12_init_142 : decode cX12_init 142 = .ok (.putfield 58, 3) := by decide +kernel
theorem dX12_init_145 : decode cX12_init 145 = .ok (.aload_n 0, 1) := by decide +kernel
theorem dX12_init_146 : decode cX12_init 146 = .ok (.bipush 60, 2) := by decide +kernel
theorem dX12_init_148 : decode cX12_init 148 = .ok (.newarray .long, 2) := by decide +kernel
theorem dX12_init_150 : decode cX12_init 150 = .ok (.putfield 62, 3) := by decide +kernel
theorem dX12_init_153 : decode cX12_init 153 = .ok (.return_, 1) := by decide +kernel
theorem dX12_in_0 : decode cX12_in 0 = .ok (.lload_n 0, 1) := by decide +kernel
theorem dX12_in_1 : decode cX12_in 1 = .ok (.lload_n 2, 1) := by decide +kernel
theorem dX12_in_2 : decode cX12_in 2 = .ok (.lcmp, 1) := by decide +kernel
theorem dX12_in_3 : decode cX12_in 3 = .ok (.ifCond .lt 14, 3) := by decide +kernel
theorem dX12_in_6 : decode cX12_in 6 = .ok (.lload_n 0, 1) := by decide +kernel
theorem dX12_in_7 : decode cX12_in 7 = .ok (.lload 4, 2) := by decide +kernel
theorem dX12_in_9 : decode cX12_in 9 = .ok (.lcmp, 1) := by decide +kernel
theorem dX12_in_10 : decode cX12_in 10 = .ok (.ifCond .gt 7, 3) := by decide +kernel
theorem dX12_in_13 : decode cX12_in 13 = .ok (.iconst 1, 1) := by decide +kernel
theorem dX12_in_14 : decode cX12_in 14 = .ok (.goto 4, 3) := by decide +kernel
theorem dX12_in_17 : decode cX12_in 17 = .ok (.iconst 0, 1) := by decide +kernel
theorem dX12_in_18 : decode cX12_in 18 = .ok (.ireturn, 1) := by decide +kernel
theorem dX12_bits_0 : decode cX12_bits 0 = .ok (.iconst 0, 1) := by decide +kernel
theorem dX12_bits_1 : decode cX12_bits 1 = .ok (.istore_n 1, 1) := by decide +kernel
theorem dX12_bits_2 : decode cX12_bits 2 = .ok (.iconst 0, 1) := by decide +kernel
theorem dX12_bits_3 : decode cX12_bits 3 = .ok (.istore_n 2, 1) := by decide +kernel
theorem dX12_bits_4 : decode cX12_bits 4 = .ok (.iload_n 2, 1) := by decide +kernel
theorem dX12_bits_5 : decode cX12_bits 5 = .ok (.bipush 12, 2) := by decide +kernel
theorem dX12_bits_7 : decode cX12_bits 7 = .ok (.if_icmp .ge 17, 3) := by decide +kernel
theorem dX12_bits_10 : decode cX12_bits 10 = .ok (.iload_n 1, 1) := by decide +kernel
theorem dX12_bits_11 : decode cX12_bits 11 = .ok (.iload_n 0, 1) := by decide +kernel
theorem dX12_bits_12 : decode cX12_bits 12 = .ok (.iload_n 2, 1) := by decide +kernel
theorem dX12_bits_13 : decode cX12_bits 13 = .ok (.ishr, 1) := by decide +kernel
theorem dX12_bits_14 : decode cX12_bits 14 = .ok (.iconst 1, 1) := by decide +kernel
theorem dX12_bits_15 : decode cX12_bits 15 = .ok (.iand, 1) := by decide +kernel
theorem dX12_bits_16 : decode cX12_bits 16 = .ok (.iadd, 1) := by decide +kernel
theorem dX12_bits_17 : decode cX12_bits 17 = .ok (.istore_n 1, 1) := by decide +kernel
theorem dX12_bits_18 : decode cX12_bits 18 = .ok (.iinc 2 1, 3) := by decide +kernel
theorem dX12_bits_21 : decode cX12_bits 21 = .ok (.goto (-17), 3) := by decide +kernel
theorem dX12_bits_24 : decode cX12_bits 24 = .ok (.iload_n 1, 1) := by decide +kernel
theorem dX12_bits_25 : decode cX12_bits 25 = .ok (.ireturn, 1) := by decide +kernel
theorem dX12_bit_0 : decode cX12_bit 0 = .ok (.iload_n 0, 1) := by decide +kernel
theorem dX12_bit_1 : decode cX12_bit 1 = .ok (.iload_n 1, 1) := by decide +kernel
theorem dX12_bit_2 : decode cX12_bit 2 = .ok (.ishr, 1) := by decide +kernel
theorem dX12_bit_3 : decode cX12_bit 3 = .ok (.iconst 1, 1) := by decide +kernel
theorem dX12_bit_4 : decode cX12_bit 4 = .ok (.iand, 1) := by decide +kernel
theorem dX12_bit_5 : decode cX12_bit 5 = .ok (.ireturn, 1) := by decide +kernel
theorem dX12_image_0 : decode cX12_image 0 = .ok (.iload_n 1, 1) := by decide +kernel
theorem dX12_image_1 : decode cX12_image 1 = .ok (.i2l, 1) := by decide +kernel
theorem dX12_image_2 : decode cX12_image 2 = .ok (.lconst 0, 1) := by decide +kernel
theorem dX12_image_3 : decode cX12_image 3 = .ok (.ldc2_w 68, 3) := by decide +kernel
theorem dX12_image_6 : decode cX12_image 6 = .ok (.invokestatic 70, 3) := by decide +kernel
theorem dX12_image_9 : decode cX12_image 9 = .ok (.ifCond .ne 6, 3) := by decide +kernel
theorem dX12_image_12 : decode cX12_image 12 = .ok (.bipush (-2), 2) := by decide +kernel
theorem dX12_image_14 : decode cX12_image 14 = .ok (.ireturn, 1) := by decide +kernel
theorem dX12_image_15 : decode cX12_image 15 = .ok (.iconst 0, 1) := by decide +kernel
theorem dX12_image_16 : decode cX12_image 16 = .ok (.istore_n 2, 1) := by decide +kernel
theorem dX12_image_17 : decode cX12_image 17 = .ok (.iload_n 2, 1) := by decide +kernel
theorem dX12_image_18 : decode cX12_image 18 = .ok (.sipush 240, 3) := by decide +kernel
theorem dX12_image_21 : decode cX12_image 21 = .ok (.if_icmp .ge 27, 3) := by decide +kernel
theorem dX12_image_24 : decode cX12_image 24 = .ok (.aload_n 0, 1) := by decide +kernel
theorem dX12_image_25 : decode cX12_image 25 = .ok (.getfield 13, 3) := by decide +kernel
theorem dX12_image_28 : decode cX12_image 28 = .ok (.sipush 240, 3) := by decide +kernel
theorem dX12_image_31 : decode cX12_image 31 = .ok (.iload_n 1, 1) := by decide +kernel
theorem dX12_image_32 : decode cX12_image 32 = .ok (.imul, 1) := by decide +kernel
theorem dX12_image_33 : decode cX12_image 33 = .ok (.iload_n 2, 1) := by decide +kernel
theorem dX12_image_34 : decode cX12_image 34 = .ok (.iadd, 1) := by decide +kernel
theorem dX12_image_35 : decode cX12_image 35 = .ok (.aload_n 0, 1) := by decide +kernel
theorem dX12_image_36 : decode cX12_image 36 = .ok (.getfield 9, 3) := by decide +kernel
theorem dX12_image_39 : decode cX12_image 39 = .ok (.iload_n 2, 1) := by decide +kernel
theorem dX12_image_40 : decode cX12_image 40 = .ok (.iaload, 1) := by decide +kernel
theorem dX12_image_41 : decode cX12_image 41 = .ok (.iastore, 1) := by decide +kernel
theorem dX12_image_42 : decode cX12_image 42 = .ok (.iinc 2 1, 3) := by decide +kernel
theorem dX12_image_45 : decode cX12_image 45 = .ok (.goto (-28), 3) := by decide +kernel
theorem dX12_image_48 : decode cX12_image 48 = .ok (.aload_n 0, 1) := by decide +kernel
theorem dX12_image_49 : decode cX12_image 49 = .ok (.getfield 16, 3) := by decide +kernel
theorem dX12_image_52 : decode cX12_image 52 = .ok (.iload_n 1, 1) := by decide +kernel
theorem dX12_image_53 : decode cX12_image 53 = .ok (.iconst 1, 1) := by decide +kernel
theorem dX12_image_54 : decode cX12_image 54 = .ok (.bastore, 1) := by decide +kernel
theorem dX12_image_55 : decode cX12_image 55 = .ok (.iconst 0, 1) := by decide +kernel
theorem dX12_image_56 : decode cX12_image 56 = .ok (.ireturn, 1) := by decide +kernel
theorem dX12_back_0 : decode cX12_back 0 = .ok (.iload_n 1, 1) := by decide +kernel
theorem dX12_back_1 : decode cX12_back 1 = .ok (.i2l, 1) := by decide +kernel
theorem dX12_back_2 : decode cX12_back 2 = .ok (.lconst 0, 1) := by decide +kernel
theorem dX12_back_3 : decode cX12_back 3 = .ok (.ldc2_w 68, 3) := by decide +kernel
theorem dX12_back_6 : decode cX12_back 6 = .ok (.invokestatic 70, 3) := by decide +kernel
theorem dX12_back_9 : decode cX12_back 9 = .ok (.ifCond .ne 6, 3) := by decide +kernel
theorem dX12_back_12 : decode cX12_back 12 = .ok (.bipush (-2), 2) := by decide +kernel
theorem dX12_back_14 : decode cX12_back 14 = .ok (.ireturn, 1) := by decide +kernel
theorem dX12_back_15 : decode cX12_back 15 = .ok (.aload_n 0, 1) := by decide +kernel
theorem dX12_back_16 : decode cX12_back 16 = .ok (.getfield 16, 3) := by decide +kernel
theorem dX12_back_19 : decode cX12_back 19 = .ok (.iload_n 1, 1) := by decide +kernel
theorem dX12_back_20 : decode cX12_back 20 = .ok (.baload, 1) := by decide +kernel
theorem dX12_back_21 : decode cX12_back 21 = .ok (.ifCond .ne 6, 3) := by decide +kernel
theorem dX12_back_24 : decode cX12_back 24 = .ok (.bipush (-6), 2) := by decide +kernel
theorem dX12_back_26 : decode cX12_back 26 = .ok (.ireturn, 1) := by decide +kernel
theorem dX12_back_27 : decode cX12_back 27 = .ok (.iconst 0, 1) := by decide +kernel
theorem dX12_back_28 : decode cX12_back 28 = .ok (.istore_n 2, 1) := by decide +kernel
theorem dX12_back_29 : decode cX12_back 29 = .ok (.iload_n 2, 1) := by decide +kernel
theorem dX12_back_30 : decode cX12_back 30 = .ok (.sipush 240, 3) := by decide +kernel
theorem dX12_back_33 : decode cX12_back 33 = .ok (.if_icmp .ge 27, 3) := by decide +kernel
theorem dX12_back_36 : decode cX12_back 36 = .ok (.aload_n 0, 1) := by decide +kernel
theorem dX12_back_37 : decode cX12_back 37 = .ok (.getfield 9, 3) := by decide +kernel
theorem dX12_back_40 : decode cX12_back 40 = .ok (.iload_n 2, 1) := by decide +kernel
theorem dX12_back_41 : decode cX12_back 41 = .ok (.aload_n 0, 1) := by decide +kernel
theorem dX12_back_42 : decode cX12_back 42 = .ok (.getfield 13, 3) := by decide +kernel
theorem dX12_back_45 : decode cX12_back 45 = .ok (.sipush 240, 3) := by decide +kernel
theorem dX12_back_48 : decode cX12_back 48 = .ok (.iload_n 1, 1) := by decide +kernel
theorem dX12_back_49 : decode cX12_back 49 = .ok (.imul, 1) := by decide +kernel
theorem dX12_back_50 : decode cX12_back 50 = .ok (.iload_n 2, 1) := by decide +kernel
theorem dX12_back_51 : decode cX12_back 51 = .ok (.iadd, 1) := by decide +kernel
theorem dX12_back_52 : decode cX12_back 52 = .ok (.iaload, 1) := by decide +kernel
theorem dX12_back_53 : decode cX12_back 53 = .ok (.iastore, 1) := by decide +kernel
theorem dX12_back_54 : decode cX12_back 54 = .ok (.iinc 2 1, 3) := by decide +kernel
theorem dX12_back_57 : decode cX12_back 57 = .ok (.goto (-28), 3) := by decide +kernel
theorem dX12_back_60 : decode cX12_back 60 = .ok (.iconst 0, 1) := by decide +kernel
theorem dX12_back_61 : decode cX12_back 61 = .ok (.ireturn, 1) := by decide +kernel
theorem dX12_isWar_0 : decode cX12_isWar 0 = .ok (.aload_n 0, 1) := by decide +kernel
theorem dX12_isWar_1 : decode cX12_isWar 1 = .ok (.getfield 9, 3) := by decide +kernel
theorem dX12_isWar_4 : decode cX12_isWar 4 = .ok (.bipush 9, 2) := by decide +kernel
theorem dX12_isWar_6 : decode cX12_isWar 6 = .ok (.iaload, 1) := by decide +kernel
theorem dX12_isWar_7 : decode cX12_isWar 7 = .ok (.ifCond .le 7, 3) := by decide +kernel
theorem dX12_isWar_10 : decode cX12_isWar 10 = .ok (.iconst 1, 1) := by decide +kernel
theorem dX12_isWar_11 : decode cX12_isWar 11 = .ok (.goto 4, 3) := by decide +kernel
theorem dX12_isWar_14 : decode cX12_isWar 14 = .ok (.iconst 0, 1) := by decide +kernel
theorem dX12_isWar_15 : decode cX12_isWar 15 = .ok (.ireturn, 1) := by decide +kernel
theorem dX12_isSide_0 : decode cX12_isSide 0 = .ok (.aload_n 0, 1) := by decide +kernel
theorem dX12_isSide_1 : decode cX12_isSide 1 = .ok (.invokevirtual 74, 3) := by decide +kernel
theorem dX12_isSide_4 : decode cX12_isSide 4 = .ok (.ifCond .eq 17, 3) := by decide +kernel
theorem dX12_isSide_7 : decode cX12_isSide 7 = .ok (.iload_n 1, 1) := by decide +kernel
theorem dX12_isSide_8 : decode cX12_isSide 8 = .ok (.i2l, 1) := by decide +kernel
theorem dX12_isSide_9 : decode cX12_isSide 9 = .ok (.lconst 0, 1) := by decide +kernel
theorem dX12_isSide_10 : decode cX12_isSide 10 = .ok (.lconst 1, 1) := by decide +kernel
theorem dX12_isSide_11 : decode cX12_isSide 11 = .ok (.invokestatic 70, 3) := by decide +kernel
theorem dX12_isSide_14 : decode cX12_isSide 14 = .ok (.ifCond .eq 7, 3) := by decide +kernel
theorem dX12_isSide_17 : decode cX12_isSide 17 = .ok (.iconst 1, 1) := by decide +kernel
theorem dX12_isSide_18 : decode cX12_isSide 18 = .ok (.goto 4, 3) := by decide +kernel
theorem dX12_isSide_21 : decode cX12_isSide 21 = .ok (.iconst 0, 1) := by decide +kernel
theorem dX12_isSide_22 : decode cX12_isSide 22 = .ok (.ireturn, 1) := by decide +kernel
theorem dX12_isTrain_0 : decode cX12_isTrain 0 = .ok (.iload_n 1, 1) := by decide +kernel
theorem dX12_isTrain_1 : decode cX12_isTrain 1 = .ok (.i2l, 1) := by decide +kernel
theorem dX12_isTrain_2 : decode cX12_isTrain 2 = .ok (.lconst 0, 1) := by decide +kernel
theorem dX12_isTrain_3 : decode cX12_isTrain 3 = .ok (.aload_n 0, 1) := by decide +kernel
theorem dX12_isTrain_4 : decode cX12_isTrain 4 = .ok (.getfield 9, 3) := by decide +kernel
theorem dX12_isTrain_7 : decode cX12_isTrain 7 = .ok (.iconst 4, 1) := by decide +kernel
theorem dX12_isTrain_8 : decode cX12_isTrain 8 = .ok (.iaload, 1) := by decide +kernel
theorem dX12_isTrain_9 : decode cX12_isTrain 9 = .ok (.iconst 1, 1) := by decide +kernel
theorem dX12_isTrain_10 : decode cX12_isTrain 10 = .ok (.isub, 1) := by decide +kernel
theorem dX12_isTrain_11 : decode cX12_isTrain 11 = .ok (.i2l, 1) := by decide +kernel
theorem dX12_isTrain_12 : decode cX12_isTrain 12 = .ok (.invokestatic 70, 3) := by decide +kernel
theorem dX12_isTrain_15 : decode cX12_isTrain 15 = .ok (.ireturn, 1) := by decide +kernel
theorem dX12_allTrains_0 : decode cX12_allTrains 0 = .ok (.iconst 1, 1) := by decide +kernel
theorem dX12_allTrains_1 : decode cX12_allTrains 1 = .ok (.aload_n 0, 1) := by decide +kernel
theorem dX12_allTrains_2 : decode cX12_allTrains 2 = .ok (.getfield 9, 3) := by decide +kernel
theorem dX12_allTrains_5 : decode cX12_allTrains 5 = .ok (.iconst 4, 1) := by decide +kernel
theorem dX12_allTrains_6 : decode cX12_allTrains 6 = .ok (.iaload, 1) := by decide +kernel
theorem dX12_allTrains_7 : decode cX12_allTrains 7 = .ok (.ishl, 1) := by decide +kernel
theorem dX12_allTrains_8 : decode cX12_allTrains 8 = .ok (.iconst 1, 1) := by decide +kernel
theorem dX12_allTrains_9 : decode cX12_allTrains 9 = .ok (.isub, 1) := by decide +kernel
theorem dX12_allTrains_10 : decode cX12_allTrains 10 = .ok (.ireturn, 1) := by decide +kernel
theorem dX12_areTrains_0 : decode cX12_areTrains 0 = .ok (.aload_n 0, 1) := by decide +kernel
theorem dX12_areTrains_1 : decode cX12_areTrains 1 = .ok (.invokevirtual 74, 3) := by decide +kernel
theorem dX12_areTrains_4 : decode cX12_areTrains 4 = .ok (.ifCond .eq 21, 3) := by decide +kernel
theorem dX12_areTrains_7 : decode cX12_areTrains 7 = .ok (.iload_n 1, 1) := by decide +kernel
theorem dX12_areTrains_8 : decode cX12_areTrains 8 = .ok (.i2l, 1) := by decide +kernel
theorem dX12_areTrains_9 : decode cX12_areTrains 9 = .ok (.lconst 0, 1) := by decide +kernel
theorem dX12_areTrains_10 : decode cX12_areTrains 10 = .ok (.aload_n 0, 1) := by decide +kernel
theorem dX12_areTrains_11 : decode cX12_areTrains 11 = .ok (.invokevirtual 78, 3) := by decide +kernel
theorem dX12_areTrains_14 : decode cX12_areTrains 14 = .ok (.i2l, 1) := by decide +kernel
theorem dX12_areTrains_15 : decode cX12_areTrains 15 = .ok (.invokestatic 70, 3) := by decide +kernel
theorem dX12_areTrains_18 : decode cX12_areTrains 18 = .ok (.ifCond .eq 7, 3) := by decide +kernel
theorem dX12_areTrains_21 : decode cX12_areTrains 21 = .ok (.iconst 1, 1) := by decide +kernel
theorem dX12_areTrains_22 : decode cX12_areTrains 22 = .ok (.goto 4, 3) := by decide +kernel
theorem dX12_areTrains_25 : decode cX12_areTrains 25 = .ok (.iconst 0, 1) := by decide +kernel
theorem dX12_areTrains_26 : decode cX12_areTrains 26 = .ok (.ireturn, 1) := by decide +kernel
theorem dX12_of_0 : decode cX12_of 0 = .ok (.aload_n 0, 1) := by decide +kernel
theorem dX12_of_1 : decode cX12_of 1 = .ok (.getfield 9, 3) := by decide +kernel
theorem dX12_of_4 : decode cX12_of 4 = .ok (.bipush 13, 2) := by decide +kernel
theorem dX12_of_6 : decode cX12_of 6 = .ok (.bipush 6, 2) := by decide +kernel
theorem dX12_of_8 : decode cX12_of 8 = .ok (.iload_n 1, 1) := by decide +kernel
theorem dX12_of_9 : decode cX12_of 9 = .ok (.imul, 1) := by decide +kernel
theorem dX12_of_10 : decode cX12_of 10 = .ok (.iadd, 1) := by decide +kernel
theorem dX12_of_11 : decode cX12_of 11 = .ok (.iload_n 2, 1) := by decide +kernel
theorem dX12_of_12 : decode cX12_of 12 = .ok (.iadd, 1) := by decide +kernel
theorem dX12_of_13 : decode cX12_of 13 = .ok (.iaload, 1) := by decide +kernel
theorem dX12_of_14 : decode cX12_of 14 = .ok (.ireturn, 1) := by decide +kernel
theorem dX12_trainsOf_0 : decode cX12_trainsOf 0 = .ok (.iconst 0, 1) := by decide +kernel
theorem dX12_trainsOf_1 : decode cX12_trainsOf 1 = .ok (.istore_n 2, 1) := by decide +kernel
theorem dX12_trainsOf_2 : decode cX12_trainsOf 2 = .ok (.iconst 0, 1) := by decide +kernel
theorem dX12_trainsOf_3 : decode cX12_trainsOf 3 = .ok (.istore_n 3, 1) := by decide +kernel
theorem dX12_trainsOf_4 : decode cX12_trainsOf 4 = .ok (.iload_n 3, 1) := by decide +kernel
theorem dX12_trainsOf_5 : decode cX12_trainsOf 5 = .ok (.aload_n 0, 1) := by decide +kernel
theorem dX12_trainsOf_6 : decode cX12_trainsOf 6 = .ok (.getfield 9, 3) := by decide +kernel
theorem dX12_trainsOf_9 : decode cX12_trainsOf 9 = .ok (.iconst 4, 1) := by decide +kernel
theorem dX12_trainsOf_10 : decode cX12_trainsOf 10 = .ok (.iaload, 1) := by decide +kernel
theorem dX12_trainsOf_11 : decode cX12_trainsOf 11 = .ok (.if_icmp .ge 29, 3) := by decide +kernel
theorem dX12_trainsOf_14 : decode cX12_trainsOf 14 = .ok (.iload_n 2, 1) := by decide +kernel
theorem dX12_trainsOf_15 : decode cX12_trainsOf 15 = .ok (.aload_n 0, 1) := by decide +kernel
theorem dX12_trainsOf_16 : decode cX12_trainsOf 16 = .ok (.iload_n 3, 1) := by decide +kernel
theorem dX12_trainsOf_17 : decode cX12_trainsOf 17 = .ok (.iconst 0, 1) := by decide +kernel
theorem dX12_trainsOf_18 : decode cX12_trainsOf 18 = .ok (.invokevirtual 82, 3) := by decide +kernel
theorem dX12_trainsOf_21 : decode cX12_trainsOf 21 = .ok (.iload_n 1, 1) := by decide +kernel
theorem dX12_trainsOf_22 : decode cX12_trainsOf 22 = .ok (.if_icmp .ne 9, 3) := by decide +kernel
theorem dX12_trainsOf_25 : decode cX12_trainsOf 25 = .ok (.iconst 1, 1) := by decide +kernel
theorem dX12_trainsOf_26 : decode cX12_trainsOf 26 = .ok (.iload_n 3, 1) := by decide +kernel
theorem dX12_trainsOf_27 : decode cX12_trainsOf 27 = .ok (.ishl, 1) := by decide +kernel
theorem dX12_trainsOf_28 : decode cX12_trainsOf 28 = .ok (.goto 4, 3) := by decide +kernel
theorem dX12_trainsOf_31 : decode cX12_trainsOf 31 = .ok (.iconst 0, 1) := by decide +kernel
theorem dX12_trainsOf_32 : decode cX12_trainsOf 32 = .ok (.ior, 1) := by decide +kernel
theorem dX12_trainsOf_33 : decode cX12_trainsOf 33 = .ok (.istore_n 2, 1) := by decide +kernel
theorem dX12_trainsOf_34 : decode cX12_trainsOf 34 = .ok (.iinc 3 1, 3) := by decide +kernel
theorem dX12_trainsOf_37 : decode cX12_trainsOf 37 = .ok (.goto (-33), 3) := by decide +kernel
theorem dX12_trainsOf_40 : decode cX12_trainsOf 40 = .ok (.iload_n 2, 1) := by decide +kernel
theorem dX12_trainsOf_41 : decode cX12_trainsOf 41 = .ok (.ireturn, 1) := by decide +kernel
theorem dX12_priceOf_0 : decode cX12_priceOf 0 = .ok (.iconst 0, 1) := by decide +kernel
theorem dX12_priceOf_1 : decode cX12_priceOf 1 = .ok (.istore_n 2, 1) := by decide +kernel
theorem dX12_priceOf_2 : decode cX12_priceOf 2 = .ok (.iconst 0, 1) := by decide +kernel
theorem dX12_priceOf_3 : decode cX12_priceOf 3 = .ok (.istore_n 3, 1) := by decide +kernel
theorem dX12_priceOf_4 : decode cX12_priceOf 4 = .ok (.iload_n 3, 1) := by decide +kernel
theorem dX12_priceOf_5 : decode cX12_priceOf 5 = .ok (.aload_n 0, 1) := by decide +kernel
theorem dX12_priceOf_6 : decode cX12_priceOf 6 = .ok (.getfield 9, 3) := by decide +kernel
theorem dX12_priceOf_9 : decode cX12_priceOf 9 = .ok (.iconst 4, 1) := by decide +kernel
theorem dX12_priceOf_10 : decode cX12_priceOf 10 = .ok (.iaload, 1) := by decide +kernel
theorem dX12_priceOf_11 : decode cX12_priceOf 11 = .ok (.if_icmp .ge 24, 3) := by decide +kernel
theorem dX12_priceOf_14 : decode cX12_priceOf 14 = .ok (.iload_n 2, 1) := by decide +kernel
theorem dX12_priceOf_15 : decode cX12_priceOf 15 = .ok (.iload_n 1, 1) := by decide +kernel
theorem dX12_priceOf_16 : decode cX12_priceOf 16 = .ok (.iload_n 3, 1) := by decide +kernel
theorem dX12_priceOf_17 : decode cX12_priceOf 17 = .ok (.invokestatic 86, 3) := by decide +kernel
theorem dX12_priceOf_20 : decode cX12_priceOf 20 = .ok (.aload_n 0, 1) := by decide +kernel
theorem dX12_priceOf_21 : decode cX12_priceOf 21 = .ok (.iload_n 3, 1) := by decide +kernel
theorem dX12_priceOf_22 : decode cX12_priceOf 22 = .ok (.iconst 5, 1) := by decide +kernel
theorem dX12_priceOf_23 : decode cX12_priceOf 23 = .ok (.invokevirtual 82, 3) := by decide +kernel
theorem dX12_priceOf_26 : decode cX12_priceOf 26 = .ok (.imul, 1) := by decide +kernel
theorem dX12_priceOf_27 : decode cX12_priceOf 27 = .ok (.iadd, 1) := by decide +kernel
theorem dX12_priceOf_28 : decode cX12_priceOf 28 = .ok (.istore_n 2, 1) := by decide +kernel
theorem dX12_priceOf_29 : decode cX12_priceOf 29 = .ok (.iinc 3 1, 3) := by decide +kernel
theorem dX12_priceOf_32 : decode cX12_priceOf 32 = .ok (.goto (-28), 3) := by decide +kernel
theorem dX12_priceOf_35 : decode cX12_priceOf 35 = .ok (.iload_n 2, 1) := by decide +kernel
theorem dX12_priceOf_36 : decode cX12_priceOf 36 = .ok (.ireturn, 1) := by decide +kernel
theorem dX12_feed_0 : decode cX12_feed 0 = .ok (.aload_n 0, 1) := by decide +kernel
theorem dX12_feed_1 : decode cX12_feed 1 = .ok (.getfield 89, 3) := by decide +kernel
theorem dX12_feed_4 : decode cX12_feed 4 = .ok (.bipush 20, 2) := by decide +kernel
theorem dX12_feed_6 : decode cX12_feed 6 = .ok (.iadd, 1) := by decide +kernel
theorem dX12_feed_7 : decode cX12_feed 7 = .ok (.sipush 1200, 3) := by decide +kernel
theorem dX12_feed_10 : decode cX12_feed 10 = .ok (.if_icmp .le 5, 3) := by decide +kernel
theorem dX12_feed_13 : decode cX12_feed 13 = .ok (.iconst (-1), 1) := by decide +kernel
theorem dX12_feed_14 : decode cX12_feed 14 = .ok (.ireturn, 1) := by decide +kernel
theorem dX12_feed_15 : decode cX12_feed 15 = .ok (.aload_n 0, 1) := by decide +kernel
theorem dX12_feed_16 : decode cX12_feed 16 = .ok (.getfield 24, 3) := by decide +kernel
theorem dX12_feed_19 : decode cX12_feed 19 = .ok (.iconst 0, 1) := by decide +kernel
theorem dX12_feed_20 : decode cX12_feed 20 = .ok (.iload_n 1, 1) := by decide +kernel
theorem dX12_feed_21 : decode cX12_feed 21 = .ok (.iastore, 1) := by decide +kernel
theorem dX12_feed_22 : decode cX12_feed 22 = .ok (.aload_n 0, 1) := by decide +kernel
theorem dX12_feed_23 : decode cX12_feed 23 = .ok (.getfield 24, 3) := by decide +kernel
theorem dX12_feed_26 : decode cX12_feed 26 = .ok (.iconst 1, 1) := by decide +kernel
theorem dX12_feed_27 : decode cX12_feed 27 = .ok (.iload_n 2, 1) := by decide +kernel
theorem dX12_feed_28 : decode cX12_feed 28 = .ok (.iastore, 1) := by decide +kernel
theorem dX12_feed_29 : decode cX12_feed 29 = .ok (.aload_n 0, 1) := by decide +kernel
theorem dX12_feed_30 : decode cX12_feed 30 = .ok (.getfield 24, 3) := by decide +kernel
theorem dX12_feed_33 : decode cX12_feed 33 = .ok (.iconst 2, 1) := by decide +kernel
theorem dX12_feed_34 : decode cX12_feed 34 = .ok (.iload_n 3, 1) := by decide +kernel
theorem dX12_feed_35 : decode cX12_feed 35 = .ok (.iastore, 1) := by decide +kernel
theorem dX12_feed_36 : decode cX12_feed 36 = .ok (.aload_n 0, 1) := by decide +kernel
theorem dX12_feed_37 : decode cX12_feed 37 = .ok (.getfield 24, 3) := by decide +kernel
theorem dX12_feed_40 : decode cX12_feed 40 = .ok (.iconst 3, 1) := by decide +kernel
theorem dX12_feed_41 : decode cX12_feed 41 = .ok (.iload 4, 2) := by decide +kernel
theorem dX12_feed_43 : decode cX12_feed 43 = .ok (.iastore, 1) := by decide +kernel
theorem dX12_feed_44 : decode cX12_feed 44 = .ok (.aload_n 0, 1) := by decide +kernel
theorem dX12_feed_45 : decode cX12_feed 45 = .ok (.getfield 24, 3) := by decide +kernel
theorem dX12_feed_48 : decode cX12_feed 48 = .ok (.iconst 4, 1) := by decide +kernel
theorem dX12_feed_49 : decode cX12_feed 49 = .ok (.iload 5, 2) := by decide +kernel
theorem dX12_feed_51 : decode cX12_feed 51 = .ok (.iastore, 1) := by decide +kernel
theorem dX12_feed_52 : decode cX12_feed 52 = .ok (.iconst 0, 1) := by decide +kernel
theorem dX12_feed_53 : decode cX12_feed 53 = .ok (.istore 6, 2) := by decide +kernel
theorem dX12_feed_55 : decode cX12_feed 55 = .ok (.iload 6, 2) := by decide +kernel
theorem dX12_feed_57 : decode cX12_feed 57 = .ok (.bipush 20, 2) := by decide +kernel
theorem dX12_feed_59 : decode cX12_feed 59 = .ok (.if_icmp .ge 42, 3) := by decide +kernel
theorem dX12_feed_62 : decode cX12_feed 62 = .ok (.aload_n 0, 1) := by decide +kernel
theorem dX12_feed_63 : decode cX12_feed 63 = .ok (.getfield 20, 3) := by decide +kernel
theorem dX12_feed_66 : decode cX12_feed 66 = .ok (.aload_n 0, 1) := by decide +kernel
theorem dX12_feed_67 : decode cX12_feed 67 = .ok (.getfield 89, 3) := by decide +kernel
theorem dX12_feed_70 : decode cX12_feed 70 = .ok (.iload 6, 2) := by decide +kernel
theorem dX12_feed_72 : decode cX12_feed 72 = .ok (.iadd, 1) := by decide +kernel
theorem dX12_feed_73 : decode cX12_feed 73 = .ok (.aload_n 0, 1) := by decide +kernel
theorem dX12_feed_74 : decode cX12_feed 74 = .ok (.getfield 24, 3) := by decide +kernel
theorem dX12_feed_77 : decode cX12_feed 77 = .ok (.iload 6, 2) := by decide +kernel
theorem dX12_feed_79 : decode cX12_feed 79 = .ok (.iconst 4, 1) := by decide +kernel
theorem dX12_feed_80 : decode cX12_feed 80 = .ok (.idiv, 1) := by decide +kernel
theorem dX12_feed_81 : decode cX12_feed 81 = .ok (.iaload, 1) := by decide +kernel
theorem dX12_feed_82 : decode cX12_feed 82 = .ok (.bipush 24, 2) := by decide +kernel
theorem dX12_feed_84 : decode cX12_feed 84 = .ok (.bipush 8, 2) := by decide +kernel
theorem dX12_feed_86 : decode cX12_feed 86 = .ok (.iload 6, 2) := by decide +kernel
theorem dX12_feed_88 : decode cX12_feed 88 = .ok (.iconst 4, 1) := by decide +kernel
theorem dX12_feed_89 : decode cX12_feed 89 = .ok (.irem, 1) := by decide +kernel
theorem dX12_feed_90 : decode cX12_feed 90 = .ok (.imul, 1) := by decide +kernel
theorem dX12_feed_91 : decode cX12_feed 91 = .ok (.isub, 1) := by decide +kernel
theorem dX12_feed_92 : decode cX12_feed 92 = .ok (.ishr, 1) := by decide +kernel
theorem dX12_feed_93 : decode cX12_feed 93 = .ok (.i2b, 1) := by decide +kernel
theorem dX12_feed_94 : decode cX12_feed 94 = .ok (.bastore, 1) := by decide +kernel
theorem dX12_feed_95 : decode cX12_feed 95 = .ok (.iinc 6 1, 3) := by decide +kernel
theorem dX12_feed_98 : decode cX12_feed 98 = .ok (.goto (-43), 3) := by decide +kernel
theorem dX12_feed_101 : decode cX12_feed 101 = .ok (.aload_n 0, 1) := by decide +kernel
theorem dX12_feed_102 : decode cX12_feed 102 = .ok (.dup, 1) := by decide +kernel
theorem dX12_feed_103 : decode cX12_feed 103 = .ok (.getfield 89, 3) := by decide +kernel
theorem dX12_feed_106 : decode cX12_feed 106 = .ok (.bipush 20, 2) := by decide +kernel
theorem dX12_feed_108 : decode cX12_feed 108 = .ok (.iadd, 1) := by decide +kernel
theorem dX12_feed_109 : decode cX12_feed 109 = .ok (.putfield 89, 3) := by decide +kernel
theorem dX12_feed_112 : decode cX12_feed 112 = .ok (.aload_n 0, 1) := by decide +kernel
theorem dX12_feed_113 : decode cX12_feed 113 = .ok (.getfield 89, 3) := by decide +kernel
theorem dX12_feed_116 : decode cX12_feed 116 = .ok (.ireturn, 1) := by decide +kernel
theorem dX12_end_0 : decode cX12_end 0 = .ok (.iload_n 1, 1) := by decide +kernel
theorem dX12_end_1 : decode cX12_end 1 = .ok (.i2l, 1) := by decide +kernel
theorem dX12_end_2 : decode cX12_end 2 = .ok (.lconst 0, 1) := by decide +kernel
theorem dX12_end_3 : decode cX12_end 3 = .ok (.aload_n 0, 1) := by decide +kernel
theorem dX12_end_4 : decode cX12_end 4 = .ok (.getfield 89, 3) := by decide +kernel
theorem dX12_end_7 : decode cX12_end 7 = .ok (.i2l, 1) := by decide +kernel
theorem dX12_end_8 : decode cX12_end 8 = .ok (.invokestatic 70, 3) := by decide +kernel
theorem dX12_end_11 : decode cX12_end 11 = .ok (.ifCond .ne 5, 3) := by decide +kernel
theorem dX12_end_14 : decode cX12_end 14 = .ok (.iconst (-1), 1) := by decide +kernel
theorem dX12_end_15 : decode cX12_end 15 = .ok (.ireturn, 1) := by decide +kernel
theorem dX12_end_16 : decode cX12_end 16 = .ok (.aload_n 0, 1) := by decide +kernel
theorem dX12_end_17 : decode cX12_end 17 = .ok (.iload_n 1, 1) := by decide +kernel
theorem dX12_end_18 : decode cX12_end 18 = .ok (.putfield 89, 3) := by decide +kernel
theorem dX12_end_21 : decode cX12_end 21 = .ok (.iload_n 1, 1) := by decide +kernel
theorem dX12_end_22 : decode cX12_end 22 = .ok (.ireturn, 1) := by decide +kernel
theorem dX12_see_0 : decode cX12_see 0 = .ok (.iload_n 1, 1) := by decide +kernel
theorem dX12_see_1 : decode cX12_see 1 = .ok (.aload_n 0, 1) := by decide +kernel
theorem dX12_see_2 : decode cX12_see 2 = .ok (.getfield 92, 3) := by decide +kernel
theorem dX12_see_5 : decode cX12_see 5 = .ok (.if_icmp .ge 16, 3) := by decide +kernel
theorem dX12_see_8 : decode cX12_see 8 = .ok (.aload_n 0, 1) := by decide +kernel
theorem dX12_see_9 : decode cX12_see 9 = .ok (.getfield 20, 3) := by decide +kernel
theorem dX12_see_12 : decode cX12_see 12 = .ok (.iload_n 1, 1) := by decide +kernel
theorem dX12_see_13 : decode cX12_see 13 = .ok (.baload, 1) := by decide +kernel
theorem dX12_see_14 : decode cX12_see 14 = .ok (.sipush 255, 3) := by decide +kernel
theorem dX12_see_17 : decode cX12_see 17 = .ok (.iand, 1) := by decide +kernel
theorem dX12_see_18 : decode cX12_see 18 = .ok (.goto 4, 3) := by decide +kernel
theorem dX12_see_21 : decode cX12_see 21 = .ok (.iconst (-1), 1) := by decide +kernel
theorem dX12_see_22 : decode cX12_see 22 = .ok (.ireturn, 1) := by decide +kernel
theorem dX12_advance_0 : decode cX12_advance 0 = .ok (.aload_n 0, 1) := by decide +kernel
theorem dX12_advance_1 : decode cX12_advance 1 = .ok (.aload_n 0, 1) := by decide +kernel
theorem dX12_advance_2 : decode cX12_advance 2 = .ok (.getfield 95, 3) := by decide +kernel
theorem dX12_advance_5 : decode cX12_advance 5 = .ok (.invokevirtual 98, 3) := by decide +kernel
theorem dX12_advance_8 : decode cX12_advance 8 = .ok (.bipush 32, 2) := by decide +kernel
theorem dX12_advance_10 : decode cX12_advance 10 = .ok (.if_icmp .eq 16, 3) := by decide +kernel
theorem dX12_advance_13 : decode cX12_advance 13 = .ok (.aload_n 0, 1) := by decide +kernel
theorem dX12_advance_14 : decode cX12_advance 14 = .ok (.aload_n 0, 1) := by decide +kernel
theorem dX12_advance_15 : decode cX12_advance 15 = .ok (.getfield 95, 3) := by decide +kernel
theorem dX12_advance_18 : decode cX12_advance 18 = .ok (.invokevirtual 98, 3) := by decide +kernel
theorem dX12_advance_21 : decode cX12_advance 21 = .ok (.bipush 10, 2) := by decide +kernel
theorem dX12_advance_23 : decode cX12_advance 23 = .ok (.if_icmp .ne 16, 3) := by decide +kernel
theorem dX12_advance_26 : decode cX12_advance 26 = .ok (.aload_n 0, 1) := by decide +kernel
theorem dX12_advance_27 : decode cX12_advance 27 = .ok (.dup, 1) := by decide +kernel
theorem dX12_advance_28 : decode cX12_advance 28 = .ok (.getfield 95, 3) := by decide +kernel
theorem dX12_advance_31 : decode cX12_advance 31 = .ok (.iconst 1, 1) := by decide +kernel
theorem dX12_advance_32 : decode cX12_advance 32 = .ok (.iadd, 1) := by decide +kernel
theorem dX12_advance_33 : decode cX12_advance 33 = .ok (.putfield 95, 3) := by decide +kernel
theorem dX12_advance_36 : decode cX12_advance 36 = .ok (.goto (-36), 3) := by decide +kernel
theorem dX12_advance_39 : decode cX12_advance 39 = .ok (.aload_n 0, 1) := by decide +kernel
theorem dX12_advance_40 : decode cX12_advance 40 = .ok (.aload_n 0, 1) := by decide +kernel
theorem dX12_advance_41 : decode cX12_advance 41 = .ok (.getfield 95, 3) := by decide +kernel
theorem dX12_advance_44 : decode cX12_advance 44 = .ok (.putfield 102, 3) := by decide +kernel
theorem dX12_advance_47 : decode cX12_advance 47 = .ok (.aload_n 0, 1) := by decide +kernel
theorem dX12_advance_48 : decode cX12_advance 48 = .ok (.aload_n 0, 1) := by decide +kernel
theorem dX12_advance_49 : decode cX12_advance 49 = .ok (.getfield 95, 3) := by decide +kernel
theorem dX12_advance_52 : decode cX12_advance 52 = .ok (.invokevirtual 98, 3) := by decide +kernel
theorem dX12_advance_55 : decode cX12_advance 55 = .ok (.istore_n 1, 1) := by decide +kernel
theorem dX12_advance_56 : decode cX12_advance 56 = .ok (.iload_n 1, 1) := by decide +kernel
theorem dX12_advance_57 : decode cX12_advance 57 = .ok (.iconst (-1), 1) := by decide +kernel
theorem dX12_advance_58 : decode cX12_advance 58 = .ok (.if_icmp .ne 11, 3) := by decide +kernel
theorem dX12_advance_61 : decode cX12_advance 61 = .ok (.aload_n 0, 1) := by decide +kernel
theorem dX12_advance_62 : decode cX12_advance 62 = .ok (.iconst 0, 1) := by decide +kernel
theorem dX12_advance_63 : decode cX12_advance 63 = .ok (.putfield 105, 3) := by decide +kernel
theorem dX12_advance_66 : decode cX12_advance 66 = .ok (.goto 173, 3) := by decide +kernel
theorem dX12_advance_69 : decode cX12_advance 69 = .ok (.iload_n 1, 1) := by decide +kernel
theorem dX12_advance_70 : decode cX12_advance 70 = .ok (.i2l, 1) := by decide +kernel
theorem dX12_advance_71 : decode cX12_advance 71 = .ok (.ldc2_w 108, 3) := by decide +kernel
theorem dX12_advance_74 : decode cX12_advance 74 = .ok (.ldc2_w 110, 3) := by decide +kernel
theorem dX12_advance_77 : decode cX12_advance 77 = .ok (.invokestatic 70, 3) := by decide +kernel
theorem dX12_advance_80 : decode cX12_advance 80 = .ok (.ifCond .eq 45, 3) := by decide +kernel
theorem dX12_advance_83 : decode cX12_advance 83 = .ok (.aload_n 0, 1) := by decide +kernel
theorem dX12_advance_84 : decode cX12_advance 84 = .ok (.aload_n 0, 1) := by decide +kernel
theorem dX12_advance_85 : decode cX12_advance 85 = .ok (.getfield 95, 3) := by decide +kernel
theorem dX12_advance_88 : decode cX12_advance 88 = .ok (.invokevirtual 98, 3) := by decide +kernel
theorem dX12_advance_91 : decode cX12_advance 91 = .ok (.i2l, 1) := by decide +kernel
theorem dX12_advance_92 : decode cX12_advance 92 = .ok (.ldc2_w 108, 3) := by decide +kernel
theorem dX12_advance_95 : decode cX12_advance 95 = .ok (.ldc2_w 110, 3) := by decide +kernel
theorem dX12_advance_98 : decode cX12_advance 98 = .ok (.invokestatic 70, 3) := by decide +kernel
theorem dX12_advance_101 : decode cX12_advance 101 = .ok (.ifCond .eq 16, 3) := by decide +kernel
theorem dX12_advance_104 : decode cX12_advance 104 = .ok (.aload_n 0, 1) := by decide +kernel
theorem dX12_advance_105 : decode cX12_advance 105 = .ok (.dup, 1) := by decide +kernel
theorem dX12_advance_106 : decode cX12_advance 106 = .ok (.getfield 95, 3) := by decide +kernel
theorem dX12_advance_109 : decode cX12_advance 109 = .ok (.iconst 1, 1) := by decide +kernel
theorem dX12_advance_110 : decode cX12_advance 110 = .ok (.iadd, 1) := by decide +kernel
theorem dX12_advance_111 : decode cX12_advance 111 = .ok (.putfield 95, 3) := by decide +kernel
theorem dX12_advance_114 : decode cX12_advance 114 = .ok (.goto (-31), 3) := by decide +kernel
theorem dX12_advance_117 : decode cX12_advance 117 = .ok (.aload_n 0, 1) := by decide +kernel
theorem dX12_advance_118 : decode cX12_advance 118 = .ok (.iconst 1, 1) := by decide +kernel
theorem dX12_advance_119 : decode cX12_advance 119 = .ok (.putfield 105, 3) := by decide +kernel
theorem dX12_advance_122 : decode cX12_advance 122 = .ok (.goto 117, 3) := by decide +kernel
theorem dX12_advance_125 : decode cX12_advance 125 = .ok (.iload_n 1, 1) := by decide +kernel
theorem dX12_advance_126 : decode cX12_advance 126 = .ok (.i2l, 1) := by decide +kernel
theorem dX12_advance_127 : decode cX12_advance 127 = .ok (.ldc2_w 112, 3) := by decide +kernel
theorem dX12_advance_130 : decode cX12_advance 130 = .ok (.ldc2_w 114, 3) := by decide +kernel
theorem dX12_advance_133 : decode cX12_advance 133 = .ok (.invokestatic 70, 3) := by decide +kernel
theorem dX12_advance_136 : decode cX12_advance 136 = .ok (.ifCond .eq 78, 3) := by decide +kernel
theorem dX12_advance_139 : decode cX12_advance 139 = .ok (.aload_n 0, 1) := by decide +kernel
theorem dX12_advance_140 : decode cX12_advance 140 = .ok (.iconst 0, 1) := by decide +kernel
theorem dX12_advance_141 : decode cX12_advance 141 = .ok (.putfield 116, 3) := by decide +kernel
theorem dX12_advance_144 : decode cX12_advance 144 = .ok (.aload_n 0, 1) := by decide +kernel
theorem dX12_advance_145 : decode cX12_advance 145 = .ok (.aload_n 0, 1) := by decide +kernel
theorem dX12_advance_146 : decode cX12_advance 146 = .ok (.getfield 95, 3) := by decide +kernel
theorem dX12_advance_149 : decode cX12_advance 149 = .ok (.invokevirtual 98, 3) := by decide +kernel
theorem dX12_advance_152 : decode cX12_advance 152 = .ok (.i2l, 1) := by decide +kernel
theorem dX12_advance_153 : decode cX12_advance 153 = .ok (.ldc2_w 112, 3) := by decide +kernel
theorem dX12_advance_156 : decode cX12_advance 156 = .ok (.ldc2_w 114, 3) := by decide +kernel
theorem dX12_advance_159 : decode cX12_advance 159 = .ok (.invokestatic 70, 3) := by decide +kernel
theorem dX12_advance_162 : decode cX12_advance 162 = .ok (.ifCond .eq 44, 3) := by decide +kernel
theorem dX12_advance_165 : decode cX12_advance 165 = .ok (.aload_n 0, 1) := by decide +kernel
theorem dX12_advance_166 : decode cX12_advance 166 = .ok (.ldc 119, 2) := by decide +kernel
theorem dX12_advance_168 : decode cX12_advance 168 = .ok (.bipush 10, 2) := by decide +kernel
theorem dX12_advance_170 : decode cX12_advance 170 = .ok (.aload_n 0, 1) := by decide +kernel
theorem dX12_advance_171 : decode cX12_advance 171 = .ok (.getfield 116, 3) := by decide +kernel
theorem dX12_advance_174 : decode cX12_advance 174 = .ok (.imul, 1) := by decide +kernel
theorem dX12_advance_175 : decode cX12_advance 175 = .ok (.aload_n 0, 1) := by decide +kernel
theorem dX12_advance_176 : decode cX12_advance 176 = .ok (.aload_n 0, 1) := by decide +kernel
theorem dX12_advance_177 : decode cX12_advance 177 = .ok (.getfield 95, 3) := by decide +kernel
theorem dX12_advance_180 : decode cX12_advance 180 = .ok (.invokevirtual 98, 3) := by decide +kernel
theorem dX12_advance_183 : decode cX12_advance 183 = .ok (.iadd, 1) := by decide +kernel
theorem dX12_advance_184 : decode cX12_advance 184 = .ok (.bipush 48, 2) := by decide +kernel
theorem dX12_advance_186 : decode cX12_advance 186 = .ok (.isub, 1) := by decide +kernel
theorem dX12_advance_187 : decode cX12_advance 187 = .ok (.invokestatic 120, 3) := by decide +kernel
theorem dX12_advance_190 : decode cX12_advance 190 = .ok (.putfield 116, 3) := by decide +kernel
theorem dX12_advance_193 : decode cX12_advance 193 = .ok (.aload_n 0, 1) := by decide +kernel
theorem dX12_advance_194 : decode cX12_advance 194 = .ok (.dup, 1) := by decide +kernel
theorem dX12_advance_195 : decode cX12_advance 195 = .ok (.getfield 95, 3) := by decide +kernel
theorem dX12_advance_198 : decode cX12_advance 198 = .ok (.iconst 1, 1) := by decide +kernel
theorem dX12_advance_199 : decode cX12_advance 199 = .ok (.iadd, 1) := by decide +kernel
theorem dX12_advance_200 : decode cX12_advance 200 = .ok (.putfield 95, 3) := by decide +kernel
theorem dX12_advance_203 : decode cX12_advance 203 = .ok (.goto (-59), 3) := by decide +kernel
theorem dX12_advance_206 : decode cX12_advance 206 = .ok (.aload_n 0, 1) := by decide +kernel
theorem dX12_advance_207 : decode cX12_advance 207 = .ok (.iconst 2, 1) := by decide +kernel
theorem dX12_advance_208 : decode cX12_advance 208 = .ok (.putfield 105, 3) := by decide +kernel
theorem dX12_advance_211 : decode cX12_advance 211 = .ok (.goto 28, 3) := by decide +kernel
theorem dX12_advance_214 : decode cX12_advance 214 = .ok (.aload_n 0, 1) := by decide +kernel
theorem dX12_advance_215 : decode cX12_advance 215 = .ok (.iload_n 1, 1) := by decide +kernel
theorem dX12_advance_216 : decode cX12_advance 216 = .ok (.bipush 59, 2) := by decide +kernel
theorem dX12_advance_218 : decode cX12_advance 218 = .ok (.if_icmp .ne 7, 3) := by decide +kernel
theorem dX12_advance_221 : decode cX12_advance 221 = .ok (.iconst 3, 1) := by decide +kernel
theorem dX12_advance_222 : decode cX12_advance 222 = .ok (.goto 4, 3) := by decide +kernel
theorem dX12_advance_225 : decode cX12_advance 225 = .ok (.iconst 4, 1) := by decide +kernel
theorem dX12_advance_226 : decode cX12_advance 226 = .ok (.putfield 105, 3) := by decide +kernel
theorem dX12_advance_229 : decode cX12_advance 229 = .ok (.aload_n 0, 1) := by decide +kernel
theorem dX12_advance_230 : decode cX12_advance 230 = .ok (.dup, 1) := by decide +kernel
theorem dX12_advance_231 : decode cX12_advance 231 = .ok (.getfield 95, 3) := by decide +kernel
theorem dX12_advance_234 : decode cX12_advance 234 = .ok (.iconst 1, 1) := by decide +kernel
theorem dX12_advance_235 : decode cX12_advance 235 = .ok (.iadd, 1) := by decide +kernel
theorem dX12_advance_236 : decode cX12_advance 236 = .ok (.putfield 95, 3) := by decide +kernel
theorem dX12_advance_239 : decode cX12_advance 239 = .ok (.return_, 1) := by decide +kernel
theorem dX12_good_0 : decode cX12_good 0 = .ok (.aload_n 0, 1) := by decide +kernel
theorem dX12_good_1 : decode cX12_good 1 = .ok (.getfield 125, 3) := by decide +kernel
theorem dX12_good_4 : decode cX12_good 4 = .ok (.ifCond .ne 7, 3) := by decide +kernel
theorem dX12_good_7 : decode cX12_good 7 = .ok (.iconst 1, 1) := by decide +kernel
theorem dX12_good_8 : decode cX12_good 8 = .ok (.goto 4, 3) := by decide +kernel
theorem dX12_good_11 : decode cX12_good 11 = .ok (.iconst 0, 1) := by decide +kernel
theorem dX12_good_12 : decode cX12_good 12 = .ok (.ireturn, 1) := by decide +kernel
theorem dX12_errs_0 : decode cX12_errs 0 = .ok (.aload_n 0, 1) := by decide +kernel
theorem dX12_errs_1 : decode cX12_errs 1 = .ok (.invokevirtual 128, 3) := by decide +kernel
theorem dX12_errs_4 : decode cX12_errs 4 = .ok (.ifCond .ne 4, 3) := by decide +kernel
theorem dX12_errs_7 : decode cX12_errs 7 = .ok (.return_, 1) := by decide +kernel
theorem dX12_errs_8 : decode cX12_errs 8 = .ok (.aload_n 0, 1) := by decide +kernel
theorem dX12_errs_9 : decode cX12_errs 9 = .ok (.iload_n 1, 1) := by decide +kernel
theorem dX12_errs_10 : decode cX12_errs 10 = .ok (.putfield 125, 3) := by decide +kernel
theorem dX12_errs_13 : decode cX12_errs 13 = .ok (.aload_n 0, 1) := by decide +kernel
theorem dX12_errs_14 : decode cX12_errs 14 = .ok (.aload_n 0, 1) := by decide +kernel
theorem dX12_errs_15 : decode cX12_errs 15 = .ok (.getfield 102, 3) := by decide +kernel
theorem dX12_errs_18 : decode cX12_errs 18 = .ok (.putfield 27, 3) := by decide +kernel
theorem dX12_errs_21 : decode cX12_errs 21 = .ok (.return_, 1) := by decide +kernel
theorem dX12_is_0 : decode cX12_is 0 = .ok (.aload_n 0, 1) := by decide +kernel
theorem dX12_is_1 : decode cX12_is 1 = .ok (.invokevirtual 128, 3) := by decide +kernel
theorem dX12_is_4 : decode cX12_is 4 = .ok (.ifCond .eq 31, 3) := by decide +kernel
theorem dX12_is_7 : decode cX12_is 7 = .ok (.aload_n 0, 1) := by decide +kernel
theorem dX12_is_8 : decode cX12_is 8 = .ok (.getfield 105, 3) := by decide +kernel
theorem dX12_is_11 : decode cX12_is 11 = .ok (.iconst 1, 1) := by decide +kernel
theorem dX12_is_12 : decode cX12_is 12 = .ok (.if_icmp .ne 23, 3) := by decide +kernel
theorem dX12_is_15 : decode cX12_is 15 = .ok (.aload_n 0, 1) := by decide +kernel
theorem dX12_is_16 : decode cX12_is 16 = .ok (.getfield 95, 3) := by decide +kernel
theorem dX12_is_19 : decode cX12_is 19 = .ok (.aload_n 0, 1) := by decide +kernel
theorem dX12_is_20 : decode cX12_is 20 = .ok (.getfield 102, 3) := by decide +kernel
theorem dX12_is_23 : decode cX12_is 23 = .ok (.isub, 1) := by decide +kernel
theorem dX12_is_24 : decode cX12_is 24 = .ok (.aload_n 1, 1) := by decide +kernel
theorem dX12_is_25 : decode cX12_is 25 = .ok (.invokevirtual 131, 3) := by decide +kernel
theorem dX12_is_28 : decode cX12_is 28 = .ok (.if_icmp .ne 7, 3) := by decide +kernel
theorem dX12_is_31 : decode cX12_is 31 = .ok (.iconst 1, 1) := by decide +kernel
theorem dX12_is_32 : decode cX12_is 32 = .ok (.goto 4, 3) := by decide +kernel
theorem dX12_is_35 : decode cX12_is 35 = .ok (.iconst 0, 1) := by decide +kernel
theorem dX12_is_36 : decode cX12_is 36 = .ok (.istore_n 2, 1) := by decide +kernel
theorem dX12_is_37 : decode cX12_is 37 = .ok (.iconst 0, 1) := by decide +kernel
theorem dX12_is_38 : decode cX12_is 38 = .ok (.istore_n 3, 1) := by decide +kernel
theorem dX12_is_39 : decode cX12_is 39 = .ok (.iload_n 3, 1) := by decide +kernel
theorem dX12_is_40 : decode cX12_is 40 = .ok (.aload_n 1, 1) := by decide +kernel
theorem dX12_is_41 : decode cX12_is 41 = .ok (.invokevirtual 131, 3) := by decide +kernel
theorem dX12_is_44 : decode cX12_is 44 = .ok (.if_icmp .ge 38, 3) := by decide +kernel
theorem dX12_is_47 : decode cX12_is 47 = .ok (.iload_n 2, 1) := by decide +kernel
theorem dX12_is_48 : decode cX12_is 48 = .ok (.ifCond .eq 34, 3) := by decide +kernel
theorem dX12_is_51 : decode cX12_is 51 = .ok (.aload_n 0, 1) := by decide +kernel
theorem dX12_is_52 : decode cX12_is 52 = .ok (.getfield 20, 3) := by decide +kernel
theorem dX12_is_55 : decode cX12_is 55 = .ok (.aload_n 0, 1) := by decide +kernel
theorem dX12_is_56 : decode cX12_is 56 = .ok (.getfield 102, 3) := by decide +kernel
theorem dX12_is_59 : decode cX12_is 59 = .ok (.iload_n 3, 1) := by decide +kernel
theorem dX12_is_60 : decode cX12_is 60 = .ok (.iadd, 1) := by decide +kernel
theorem dX12_is_61 : decode cX12_is 61 = .ok (.baload, 1) := by decide +kernel
theorem dX12_is_62 : decode cX12_is 62 = .ok (.aload_n 1, 1) := by decide +kernel
theorem dX12_is_63 : decode cX12_is 63 = .ok (.iload_n 3, 1) := by decide +kernel
theorem dX12_is_64 : decode cX12_is 64 = .ok (.invokevirtual 136, 3) := by decide +kernel
theorem dX12_is_67 : decode cX12_is 67 = .ok (.if_icmp .ne 7, 3) := by decide +kernel
theorem dX12_is_70 : decode cX12_is 70 = .ok (.iconst 1, 1) := by decide +kernel
theorem dX12_is_71 : decode cX12_is 71 = .ok (.goto 4, 3) := by decide +kernel
theorem dX12_is_74 : decode cX12_is 74 = .ok (.iconst 0, 1) := by decide +kernel
theorem dX12_is_75 : decode cX12_is 75 = .ok (.istore_n 2, 1) := by decide +kernel
theorem dX12_is_76 : decode cX12_is 76 = .ok (.iinc 3 1, 3) := by decide +kernel
theorem dX12_is_79 : decode cX12_is 79 = .ok (.goto (-40), 3) := by decide +kernel
theorem dX12_is_82 : decode cX12_is 82 = .ok (.iload_n 2, 1) := by decide +kernel
theorem dX12_is_83 : decode cX12_is 83 = .ok (.ireturn, 1) := by decide +kernel
theorem dX12_takes_0 : decode cX12_takes 0 = .ok (.aload_n 0, 1) := by decide +kernel
theorem dX12_takes_1 : decode cX12_takes 1 = .ok (.aload_n 1, 1) := by decide +kernel
theorem dX12_takes_2 : decode cX12_takes 2 = .ok (.invokevirtual 140, 3) := by decide +kernel
theorem dX12_takes_5 : decode cX12_takes 5 = .ok (.istore_n 2, 1) := by decide +kernel
theorem dX12_takes_6 : decode cX12_takes 6 = .ok (.iload_n 2, 1) := by decide +kernel
theorem dX12_takes_7 : decode cX12_takes 7 = .ok (.ifCond .eq 7, 3) := by decide +kernel
theorem dX12_takes_10 : decode cX12_takes 10 = .ok (.aload_n 0, 1) := by decide +kernel
theorem dX12_takes_11 : decode cX12_takes 11 = .ok (.invokevirtual 144, 3) := by decide +kernel
theorem dX12_takes_14 : decode cX12_takes 14 = .ok (.iload_n 2, 1) := by decide +kernel
theorem dX12_takes_15 : decode cX12_takes 15 = .ok (.ireturn, 1) := by decide +kernel
theorem dX12_needs_0 : decode cX12_needs 0 = .ok (.aload_n 0, 1) := by decide +kernel
theorem dX12_needs_1 : decode cX12_needs 1 = .ok (.aload_n 1, 1) := by decide +kernel
theorem dX12_needs_2 : decode cX12_needs 2 = .ok (.invokevirtual 147, 3) := by decide +kernel
theorem dX12_needs_5 : decode cX12_needs 5 = .ok (.ifCond .ne 8, 3) := by decide +kernel
theorem dX12_needs_8 : decode cX12_needs 8 = .ok (.aload_n 0, 1) := by decide +kernel
theorem dX12_needs_9 : decode cX12_needs 9 = .ok (.iconst 1, 1) := by decide +kernel
theorem dX12_needs_10 : decode cX12_needs 10 = .ok (.invokevirtual 150, 3) := by decide +kernel
theorem dX12_needs_13 : decode cX12_needs 13 = .ok (.return_, 1) := by decide +kernel
theorem dX12_number_0 : decode cX12_number 0 = .ok (.aload_n 0, 1) := by decide +kernel
theorem dX12_number_1 : decode cX12_number 1 = .ok (.invokevirtual 128, 3) := by decide +kernel
theorem dX12_number_4 : decode cX12_number 4 = .ok (.ifCond .eq 16, 3) := by decide +kernel
theorem dX12_number_7 : decode cX12_number 7 = .ok (.aload_n 0, 1) := by decide +kernel
theorem dX12_number_8 : decode cX12_number 8 = .ok (.getfield 105, 3) := by decide +kernel
theorem dX12_number_11 : decode cX12_number 11 = .ok (.iconst 2, 1) := by decide +kernel
theorem dX12_number_12 : decode cX12_number 12 = .ok (.if_icmp .eq 8, 3) := by decide +kernel
theorem dX12_number_15 : decode cX12_number 15 = .ok (.aload_n 0, 1) := by decide +kernel
theorem dX12_number_16 : decode cX12_number 16 = .ok (.iconst 1, 1) := by decide +kernel
theorem dX12_number_17 : decode cX12_number 17 = .ok (.invokevirtual 150, 3) := by decide +kernel
theorem dX12_number_20 : decode cX12_number 20 = .ok (.aload_n 0, 1) := by decide +kernel
theorem dX12_number_21 : decode cX12_number 21 = .ok (.invokevirtual 128, 3) := by decide +kernel
theorem dX12_number_24 : decode cX12_number 24 = .ok (.ifCond .eq 23, 3) := by decide +kernel
theorem dX12_number_27 : decode cX12_number 27 = .ok (.aload_n 0, 1) := by decide +kernel
theorem dX12_number_28 : decode cX12_number 28 = .ok (.getfield 116, 3) := by decide +kernel
theorem dX12_number_31 : decode cX12_number 31 = .ok (.i2l, 1) := by decide +kernel
theorem dX12_number_32 : decode cX12_number 32 = .ok (.iload_n 1, 1) := by decide +kernel
theorem dX12_number_33 : decode cX12_number 33 = .ok (.i2l, 1) := by decide +kernel
theorem dX12_number_34 : decode cX12_number 34 = .ok (.iload_n 2, 1) := by decide +kernel
theorem dX12_number_35 : decode cX12_number 35 = .ok (.i2l, 1) := by decide +kernel
theorem dX12_number_36 : decode cX12_number 36 = .ok (.invokestatic 70, 3) := by decide +kernel
theorem dX12_number_39 : decode cX12_number 39 = .ok (.ifCond .ne 8, 3) := by decide +kernel
theorem dX12_number_42 : decode cX12_number 42 = .ok (.aload_n 0, 1) := by decide +kernel
theorem dX12_number_43 : decode cX12_number 43 = .ok (.iconst 2, 1) := by decide +kernel
theorem dX12_number_44 : decode cX12_number 44 = .ok (.invokevirtual 150, 3) := by decide +kernel
theorem dX12_number_47 : decode cX12_number 47 = .ok (.aload_n 0, 1) := by decide +kernel
theorem dX12_number_48 : decode cX12_number 48 = .ok (.invokevirtual 128, 3) := by decide +kernel
theorem dX12_number_51 : decode cX12_number 51 = .ok (.ifCond .ne 5, 3) := by decide +kernel
theorem dX12_number_54 : decode cX12_number 54 = .ok (.iconst 0, 1) := by decide +kernel
theorem dX12_number_55 : decode cX12_number 55 = .ok (.ireturn, 1) := by decide +kernel
theorem dX12_number_56 : decode cX12_number 56 = .ok (.aload_n 0, 1) := by decide +kernel
theorem dX12_number_57 : decode cX12_number 57 = .ok (.getfield 116, 3) := by decide +kernel
theorem dX12_number_60 : decode cX12_number 60 = .ok (.istore_n 3, 1) := by decide +kernel
theorem dX12_number_61 : decode cX12_number 61 = .ok (.aload_n 0, 1) := by decide +kernel
theorem dX12_number_62 : decode cX12_number 62 = .ok (.invokevirtual 144, 3) := by decide +kernel
theorem dX12_number_65 : decode cX12_number 65 = .ok (.iload_n 3, 1) := by decide +kernel
theorem dX12_number_66 : decode cX12_number 66 = .ok (.ireturn, 1) := by decide +kernel
theorem dX12_told_0 : decode cX12_told 0 = .ok (.aload_n 0, 1) := by decide +kernel
theorem dX12_told_1 : decode cX12_told 1 = .ok (.aload_n 1, 1) := by decide +kernel
theorem dX12_told_2 : decode cX12_told 2 = .ok (.invokevirtual 154, 3) := by decide +kernel
theorem dX12_told_5 : decode cX12_told 5 = .ok (.aload_n 0, 1) := by decide +kernel
theorem dX12_told_6 : decode cX12_told 6 = .ok (.iload_n 2, 1) := by decide +kernel
theorem dX12_told_7 : decode cX12_told 7 = .ok (.iload_n 3, 1) := by decide +kernel
theorem dX12_told_8 : decode cX12_told 8 = .ok (.invokevirtual 158, 3) := by decide +kernel
theorem dX12_told_11 : decode cX12_told 11 = .ok (.ireturn, 1) := by decide +kernel
theorem dX12_fault_0 : decode cX12_fault 0 = .ok (.iload_n 1, 1) := by decide +kernel
theorem dX12_fault_1 : decode cX12_fault 1 = .ok (.ifCond .ne 10, 3) := by decide +kernel
theorem dX12_fault_4 : decode cX12_fault 4 = .ok (.aload_n 0, 1) := by decide +kernel
theorem dX12_fault_5 : decode cX12_fault 5 = .ok (.getfield 125, 3) := by decide +kernel
theorem dX12_fault_8 : decode cX12_fault 8 = .ok (.goto 16, 3) := by decide +kernel
theorem dX12_fault_11 : decode cX12_fault 11 = .ok (.iload_n 1, 1) := by decide +kernel
theorem dX12_fault_12 : decode cX12_fault 12 = .ok (.iconst 1, 1) := by decide +kernel
theorem dX12_fault_13 : decode cX12_fault 13 = .ok (.if_icmp .ne 10, 3) := by decide +kernel
theorem dX12_fault_16 : decode cX12_fault 16 = .ok (.aload_n 0, 1) := by decide +kernel
theorem dX12_fault_17 : decode cX12_fault 17 = .ok (.getfield 27, 3) := by decide +kernel
theorem dX12_fault_20 : decode cX12_fault 20 = .ok (.goto 4, 3) := by decide +kernel
theorem dX12_fault_23 : decode cX12_fault 23 = .ok (.iconst (-1), 1) := by decide +kernel
theorem dX12_fault_24 : decode cX12_fault 24 = .ok (.ireturn, 1) := by decide +kernel
theorem dX12_readFirst_0 : decode cX12_readFirst 0 = .ok (.aload_n 0, 1) := by decide +kernel
theorem dX12_readFirst_1 : decode cX12_readFirst 1 = .ok (.ldc 161, 2) := by decide +kernel
theorem dX12_readFirst_3 : decode cX12_readFirst 3 = .ok (.invokevirtual 154, 3) := by decide +kernel
theorem dX12_readFirst_6 : decode cX12_readFirst 6 = .ok (.aload_n 0, 1) := by decide +kernel
theorem dX12_readFirst_7 : decode cX12_readFirst 7 = .ok (.getfield 31, 3) := by decide +kernel
theorem dX12_readFirst_10 : decode cX12_readFirst 10 = .ok (.iconst 0, 1) := by decide +kernel
theorem dX12_readFirst_11 : decode cX12_readFirst 11 = .ok (.aload_n 0, 1) := by decide +kernel
theorem dX12_readFirst_12 : decode cX12_readFirst 12 = .ok (.ldc 163, 2) := by decide +kernel
theorem dX12_readFirst_14 : decode cX12_readFirst 14 = .ok (.iconst 1, 1) := by decide +kernel
theorem dX12_readFirst_15 : decode cX12_readFirst 15 = .ok (.bipush 60, 2) := by decide +kernel
theorem dX12_readFirst_17 : decode cX12_readFirst 17 = .ok (.invokevirtual 165, 3) := by decide +kernel
theorem dX12_readFirst_20 : decode cX12_readFirst 20 = .ok (.iastore, 1) := by decide +kernel
theorem dX12_readFirst_21 : decode cX12_readFirst 21 = .ok (.aload_n 0, 1) := by decide +kernel
theorem dX12_readFirst_22 : decode cX12_readFirst 22 = .ok (.getfield 31, 3) := by decide +kernel
theorem dX12_readFirst_25 : decode cX12_readFirst 25 = .ok (.iconst 1, 1) := by decide +kernel
theorem dX12_readFirst_26 : decode cX12_readFirst 26 = .ok (.aload_n 0, 1) := by decide +kernel
theorem dX12_readFirst_27 : decode cX12_readFirst 27 = .ok (.ldc 169, 2) := by decide +kernel
theorem dX12_readFirst_29 : decode cX12_readFirst 29 = .ok (.iconst 0, 1) := by decide +kernel
theorem dX12_readFirst_30 : decode cX12_readFirst 30 = .ok (.aload_n 0, 1) := by decide +kernel
theorem dX12_readFirst_31 : decode cX12_readFirst 31 = .ok (.getfield 31, 3) := by decide +kernel
theorem dX12_readFirst_34 : decode cX12_readFirst 34 = .ok (.iconst 0, 1) := by decide +kernel
theorem dX12_readFirst_35 : decode cX12_readFirst 35 = .ok (.iaload, 1) := by decide +kernel
theorem dX12_readFirst_36 : decode cX12_readFirst 36 = .ok (.iconst 1, 1) := by decide +kernel
theorem dX12_readFirst_37 : decode cX12_readFirst 37 = .ok (.isub, 1) := by decide +kernel
theorem dX12_readFirst_38 : decode cX12_readFirst 38 = .ok (.invokevirtual 165, 3) := by decide +kernel
theorem dX12_readFirst_41 : decode cX12_readFirst 41 = .ok (.iastore, 1) := by decide +kernel
theorem dX12_readFirst_42 : decode cX12_readFirst 42 = .ok (.aload_n 0, 1) := by decide +kernel
theorem dX12_readFirst_43 : decode cX12_readFirst 43 = .ok (.getfield 31, 3) := by decide +kernel
theorem dX12_readFirst_46 : decode cX12_readFirst 46 = .ok (.iconst 2, 1) := by decide +kernel
theorem dX12_readFirst_47 : decode cX12_readFirst 47 = .ok (.aload_n 0, 1) := by decide +kernel
theorem dX12_readFirst_48 : decode cX12_readFirst 48 = .ok (.ldc 171, 2) := by decide +kernel
theorem dX12_readFirst_50 : decode cX12_readFirst 50 = .ok (.iconst 0, 1) := by decide +kernel
theorem dX12_readFirst_51 : decode cX12_readFirst 51 = .ok (.bipush 60, 2) := by decide +kernel
theorem dX12_readFirst_53 : decode cX12_readFirst 53 = .ok (.invokevirtual 165, 3) := by decide +kernel
theorem dX12_readFirst_56 : decode cX12_readFirst 56 = .ok (.iastore, 1) := by decide +kernel
theorem dX12_readFirst_57 : decode cX12_readFirst 57 = .ok (.aload_n 0, 1) := by decide +kernel
theorem dX12_readFirst_58 : decode cX12_readFirst 58 = .ok (.getfield 31, 3) := by decide +kernel
theorem dX12_readFirst_61 : decode cX12_readFirst 61 = .ok (.iconst 3, 1) := by decide +kernel
theorem dX12_readFirst_62 : decode cX12_readFirst 62 = .ok (.aload_n 0, 1) := by decide +kernel
theorem dX12_readFirst_63 : decode cX12_readFirst 63 = .ok (.ldc 173, 2) := by decide +kernel
theorem dX12_readFirst_65 : decode cX12_readFirst 65 = .ok (.iconst 0, 1) := by decide +kernel
theorem dX12_readFirst_66 : decode cX12_readFirst 66 = .ok (.bipush 100, 2) := by decide +kernel
theorem dX12_readFirst_68 : decode cX12_readFirst 68 = .ok (.invokevirtual 165, 3) := by decide +kernel
theorem dX12_readFirst_71 : decode cX12_readFirst 71 = .ok (.iastore, 1) := by decide +kernel
theorem dX12_readFirst_72 : decode cX12_readFirst 72 = .ok (.return_, 1) := by decide +kernel
theorem dX12_readNeed_0 : decode cX12_readNeed 0 = .ok (.aload_n 0, 1) := by decide +kernel
theorem dX12_readNeed_1 : decode cX12_readNeed 1 = .ok (.iconst 0, 1) := by decide +kernel
theorem dX12_readNeed_2 : decode cX12_readNeed 2 = .ok (.iconst 1, 1) := by decide +kernel
theorem dX12_readNeed_3 : decode cX12_readNeed 3 = .ok (.invokevirtual 158, 3) := by decide +kernel
theorem dX12_readNeed_6 : decode cX12_readNeed 6 = .ok (.istore_n 1, 1) := by decide +kernel
theorem dX12_readNeed_7 : decode cX12_readNeed 7 = .ok (.aload_n 0, 1) := by decide +kernel
theorem dX12_readNeed_8 : decode cX12_readNeed 8 = .ok (.iconst 0, 1) := by decide +kernel
theorem dX12_readNeed_9 : decode cX12_readNeed 9 = .ok (.sipush 999, 3) := by decide +kernel
theorem dX12_readNeed_12 : decode cX12_readNeed 12 = .ok (.invokevirtual 158, 3) := by decide +kernel
theorem dX12_readNeed_15 : decode cX12_readNeed 15 = .ok (.istore_n 2, 1) := by decide +kernel
theorem dX12_readNeed_16 : decode cX12_readNeed 16 = .ok (.aload_n 0, 1) := by decide +kernel
theorem dX12_readNeed_17 : decode cX12_readNeed 17 = .ok (.invokevirtual 128, 3) := by decide +kernel
theorem dX12_readNeed_20 : decode cX12_readNeed 20 = .ok (.ifCond .eq 13, 3) := by decide +kernel
theorem dX12_readNeed_23 : decode cX12_readNeed 23 = .ok (.aload_n 0, 1) := by decide +kernel
theorem dX12_readNeed_24 : decode cX12_readNeed 24 = .ok (.getfield 31, 3) := by decide +kernel
theorem dX12_readNeed_27 : decode cX12_readNeed 27 = .ok (.bipush 11, 2) := by decide +kernel
theorem dX12_readNeed_29 : decode cX12_readNeed 29 = .ok (.iload_n 1, 1) := by decide +kernel
theorem dX12_readNeed_30 : decode cX12_readNeed 30 = .ok (.iadd, 1) := by decide +kernel
theorem dX12_readNeed_31 : decode cX12_readNeed 31 = .ok (.iload_n 2, 1) := by decide +kernel
theorem dX12_readNeed_32 : decode cX12_readNeed 32 = .ok (.iastore, 1) := by decide +kernel
theorem dX12_readNeed_33 : decode cX12_readNeed 33 = .ok (.return_, 1) := by decide +kernel
theorem dX12_readTrain_0 : decode cX12_readTrain 0 = .ok (.bipush 13, 2) := by decide +kernel
theorem dX12_readTrain_2 : decode cX12_readTrain 2 = .ok (.bipush 6, 2) := by decide +kernel
theorem dX12_readTrain_4 : decode cX12_readTrain 4 = .ok (.aload_n 0, 1) := by decide +kernel
theorem dX12_readTrain_5 : decode cX12_readTrain 5 = .ok (.getfield 31, 3) := by decide +kernel
theorem dX12_readTrain_8 : decode cX12_readTrain 8 = .ok (.iconst 4, 1) := by decide +kernel
theorem dX12_readTrain_9 : decode cX12_readTrain 9 = .ok (.iaload, 1) := by decide +kernel
theorem dX12_readTrain_10 : decode cX12_readTrain 10 = .ok (.imul, 1) := by decide +kernel
theorem dX12_readTrain_11 : decode cX12_readTrain 11 = .ok (.iadd, 1) := by decide +kernel
theorem dX12_readTrain_12 : decode cX12_readTrain 12 = .ok (.istore_n 1, 1) := by decide +kernel
theorem dX12_readTrain_13 : decode cX12_readTrain 13 = .ok (.aload_n 0, 1) := by decide +kernel
theorem dX12_readTrain_14 : decode cX12_readTrain 14 = .ok (.getfield 31, 3) := by decide +kernel
theorem dX12_readTrain_17 : decode cX12_readTrain 17 = .ok (.iload_n 1, 1) := by decide +kernel
theorem dX12_readTrain_18 : decode cX12_readTrain 18 = .ok (.iconst 0, 1) := by decide +kernel
theorem dX12_readTrain_19 : decode cX12_readTrain 19 = .ok (.iadd, 1) := by decide +kernel
theorem dX12_readTrain_20 : decode cX12_readTrain 20 = .ok (.aload_n 0, 1) := by decide +kernel
theorem dX12_readTrain_21 : decode cX12_readTrain 21 = .ok (.iconst 0, 1) := by decide +kernel
theorem dX12_readTrain_22 : decode cX12_readTrain 22 = .ok (.iconst 1, 1) := by decide +kernel
theorem dX12_readTrain_23 : decode cX12_readTrain 23 = .ok (.invokevirtual 158, 3) := by decide +kernel
theorem dX12_readTrain_26 : decode cX12_readTrain 26 = .ok (.iastore, 1) := by decide +kernel
theorem dX12_readTrain_27 : decode cX12_readTrain 27 = .ok (.aload_n 0, 1) := by decide +kernel
theorem dX12_readTrain_28 : decode cX12_readTrain 28 = .ok (.getfield 31, 3) := by decide +kernel
theorem dX12_readTrain_31 : decode cX12_readTrain 31 = .ok (.iload_n 1, 1) := by decide +kernel
theorem dX12_readTrain_32 : decode cX12_readTrain 32 = .ok (.iconst 1, 1) := by decide +kernel
theorem dX12_readTrain_33 : decode cX12_readTrain 33 = .ok (.iadd, 1) := by decide +kernel
theorem dX12_readTrain_34 : decode cX12_readTrain 34 = .ok (.aload_n 0, 1) := by decide +kernel
theorem dX12_readTrain_35 : decode cX12_readTrain 35 = .ok (.ldc 175, 2) := by decide +kernel
theorem dX12_readTrain_37 : decode cX12_readTrain 37 = .ok (.iconst 1, 1) := by decide +kernel
theorem dX12_readTrain_38 : decode cX12_readTrain 38 = .ok (.bipush 99, 2) := by decide +kernel
theorem dX12_readTrain_40 : decode cX12_readTrain 40 = .ok (.invokevirtual 165, 3) := by decide +kernel
theorem dX12_readTrain_43 : decode cX12_readTrain 43 = .ok (.iastore, 1) := by decide +kernel
theorem dX12_readTrain_44 : decode cX12_readTrain 44 = .ok (.aload_n 0, 1) := by decide +kernel
theorem dX12_readTrain_45 : decode cX12_readTrain 45 = .ok (.getfield 31, 3) := by decide +kernel
theorem dX12_readTrain_48 : decode cX12_readTrain 48 = .ok (.iload_n 1, 1) := by decide +kernel
theorem dX12_readTrain_49 : decode cX12_readTrain 49 = .ok (.iconst 2, 1) := by decide +kernel
theorem dX12_readTrain_50 : decode cX12_readTrain 50 = .ok (.iadd, 1) := by decide +kernel
theorem dX12_readTrain_51 : decode cX12_readTrain 51 = .ok (.aload_n 0, 1) := by decide +kernel
theorem dX12_readTrain_52 : decode cX12_readTrain 52 = .ok (.ldc 177, 2) := by decide +kernel
theorem dX12_readTrain_54 : decode cX12_readTrain 54 = .ok (.iconst 0, 1) := by decide +kernel
theorem dX12_readTrain_55 : decode cX12_readTrain 55 = .ok (.bipush 59, 2) := by decide +kernel
theorem dX12_readTrain_57 : decode cX12_readTrain 57 = .ok (.invokevirtual 165, 3) := by decide +kernel
theorem dX12_readTrain_60 : decode cX12_readTrain 60 = .ok (.iastore, 1) := by decide +kernel
theorem dX12_readTrain_61 : decode cX12_readTrain 61 = .ok (.aload_n 0, 1) := by decide +kernel
theorem dX12_readTrain_62 : decode cX12_readTrain 62 = .ok (.getfield 31, 3) := by decide +kernel
theorem dX12_readTrain_65 : decode cX12_readTrain 65 = .ok (.iload_n 1, 1) := by decide +kernel
theorem dX12_readTrain_66 : decode cX12_readTrain 66 = .ok (.iconst 3, 1) := by decide +kernel
theorem dX12_readTrain_67 : decode cX12_readTrain 67 = .ok (.iadd, 1) := by decide +kernel
theorem dX12_readTrain_68 : decode cX12_readTrain 68 = .ok (.aload_n 0, 1) := by decide +kernel
theorem dX12_readTrain_69 : decode cX12_readTrain 69 = .ok (.ldc 179, 2) := by decide +kernel
theorem dX12_readTrain_71 : decode cX12_readTrain 71 = .ok (.iconst 0, 1) := by decide +kernel
theorem dX12_readTrain_72 : decode cX12_readTrain 72 = .ok (.bipush 100, 2) := by decide +kernel
theorem dX12_readTrain_74 : decode cX12_readTrain 74 = .ok (.invokevirtual 165, 3) := by decide +kernel
theorem dX12_readTrain_77 : decode cX12_readTrain 77 = .ok (.iastore, 1) := by decide +kernel
theorem dX12_readTrain_78 : decode cX12_readTrain 78 = .ok (.aload_n 0, 1) := by decide +kernel
theorem dX12_readTrain_79 : decode cX12_readTrain 79 = .ok (.getfield 31, 3) := by decide +kernel
theorem dX12_readTrain_82 : decode cX12_readTrain 82 = .ok (.iload_n 1, 1) := by decide +kernel
theorem dX12_readTrain_83 : decode cX12_readTrain 83 = .ok (.iconst 4, 1) := by decide +kernel
theorem dX12_readTrain_84 : decode cX12_readTrain 84 = .ok (.iadd, 1) := by decide +kernel
theorem dX12_readTrain_85 : decode cX12_readTrain 85 = .ok (.aload_n 0, 1) := by decide +kernel
theorem dX12_readTrain_86 : decode cX12_readTrain 86 = .ok (.ldc 181, 2) := by decide +kernel
theorem dX12_readTrain_88 : decode cX12_readTrain 88 = .ok (.iconst 1, 1) := by decide +kernel
theorem dX12_readTrain_89 : decode cX12_readTrain 89 = .ok (.bipush 30, 2) := by decide +kernel
theorem dX12_readTrain_91 : decode cX12_readTrain 91 = .ok (.invokevirtual 165, 3) := by decide +kernel
theorem dX12_readTrain_94 : decode cX12_readTrain 94 = .ok (.iastore, 1) := by decide +kernel
theorem dX12_readTrain_95 : decode cX12_readTrain 95 = .ok (.aload_n 0, 1) := by decide +kernel
theorem dX12_readTrain_96 : decode cX12_readTrain 96 = .ok (.getfield 31, 3) := by decide +kernel
theorem dX12_readTrain_99 : decode cX12_readTrain 99 = .ok (.iload_n 1, 1) := by decide +kernel
theorem dX12_readTrain_100 : decode cX12_readTrain 100 = .ok (.iconst 5, 1) := by decide +kernel
theorem dX12_readTrain_101 : decode cX12_readTrain 101 = .ok (.iadd, 1) := by decide +kernel
theorem dX12_readTrain_102 : decode cX12_readTrain 102 = .ok (.aload_n 0, 1) := by decide +kernel
theorem dX12_readTrain_103 : decode cX12_readTrain 103 = .ok (.ldc 183, 2) := by decide +kernel
theorem dX12_readTrain_105 : decode cX12_readTrain 105 = .ok (.iconst 0, 1) := by decide +kernel
theorem dX12_readTrain_106 : decode cX12_readTrain 106 = .ok (.sipush 999, 3) := by decide +kernel
theorem dX12_readTrain_109 : decode cX12_readTrain 109 = .ok (.invokevirtual 165, 3) := by decide +kernel
theorem dX12_readTrain_112 : decode cX12_readTrain 112 = .ok (.iastore, 1) := by decide +kernel
theorem dX12_readTrain_113 : decode cX12_readTrain 113 = .ok (.aload_n 0, 1) := by decide +kernel
theorem dX12_readTrain_114 : decode cX12_readTrain 114 = .ok (.getfield 31, 3) := by decide +kernel
theorem dX12_readTrain_117 : decode cX12_readTrain 117 = .ok (.iconst 4, 1) := by decide +kernel
theorem dX12_readTrain_118 : decode cX12_readTrain 118 = .ok (.dup2, 1) := by decide +kernel
theorem dX12_readTrain_119 : decode cX12_readTrain 119 = .ok (.iaload, 1) := by decide +kernel
theorem dX12_readTrain_120 : decode cX12_readTrain 120 = .ok (.iconst 1, 1) := by decide +kernel
theorem dX12_readTrain_121 : decode cX12_readTrain 121 = .ok (.iadd, 1) := by decide +kernel
theorem dX12_readTrain_122 : decode cX12_readTrain 122 = .ok (.iastore, 1) := by decide +kernel
theorem dX12_readTrain_123 : decode cX12_readTrain 123 = .ok (.return_, 1) := by decide +kernel
theorem dX12_readBounds_0 : decode cX12_readBounds 0 = .ok (.aload_n 0, 1) := by decide +kernel
theorem dX12_readBounds_1 : decode cX12_readBounds 1 = .ok (.getfield 31, 3) := by decide +kernel
theorem dX12_readBounds_4 : decode cX12_readBounds 4 = .ok (.iload_n 1, 1) := by decide +kernel
theorem dX12_readBounds_5 : decode cX12_readBounds 5 = .ok (.aload_n 0, 1) := by decide +kernel
theorem dX12_readBounds_6 : decode cX12_readBounds 6 = .ok (.iconst 0, 1) := by decide +kernel
theorem dX12_readBounds_7 : decode cX12_readBounds 7 = .ok (.bipush 59, 2) := by decide +kernel
theorem dX12_readBounds_9 : decode cX12_readBounds 9 = .ok (.invokevirtual 158, 3) := by decide +kernel
theorem dX12_readBounds_12 : decode cX12_readBounds 12 = .ok (.iastore, 1) := by decide +kernel
theorem dX12_readBounds_13 : decode cX12_readBounds 13 = .ok (.aload_n 0, 1) := by decide +kernel
theorem dX12_readBounds_14 : decode cX12_readBounds 14 = .ok (.getfield 31, 3) := by decide +kernel
theorem dX12_readBounds_17 : decode cX12_readBounds 17 = .ok (.iload_n 1, 1) := by decide +kernel
theorem dX12_readBounds_18 : decode cX12_readBounds 18 = .ok (.iconst 1, 1) := by decide +kernel
theorem dX12_readBounds_19 : decode cX12_readBounds 19 = .ok (.iadd, 1) := by decide +kernel
theorem dX12_readBounds_20 : decode cX12_readBounds 20 = .ok (.aload_n 0, 1) := by decide +kernel
theorem dX12_readBounds_21 : decode cX12_readBounds 21 = .ok (.ldc 185, 2) := by decide +kernel
theorem dX12_readBounds_23 : decode cX12_readBounds 23 = .ok (.aload_n 0, 1) := by decide +kernel
theorem dX12_readBounds_24 : decode cX12_readBounds 24 = .ok (.getfield 31, 3) := by decide +kernel
theorem dX12_readBounds_27 : decode cX12_readBounds 27 = .ok (.iload_n 1, 1) := by decide +kernel
theorem dX12_readBounds_28 : decode cX12_readBounds 28 = .ok (.iaload, 1) := by decide +kernel
theorem dX12_readBounds_29 : decode cX12_readBounds 29 = .ok (.bipush 59, 2) := by decide +kernel
theorem dX12_readBounds_31 : decode cX12_readBounds 31 = .ok (.invokevirtual 165, 3) := by decide +kernel
theorem dX12_readBounds_34 : decode cX12_readBounds 34 = .ok (.iastore, 1) := by decide +kernel
theorem dX12_readBounds_35 : decode cX12_readBounds 35 = .ok (.return_, 1) := by decide +kernel
theorem dX12_readAsk_0 : decode cX12_readAsk 0 = .ok (.bipush 75, 2) := by decide +kernel
theorem dX12_readAsk_2 : decode cX12_readAsk 2 = .ok (.iconst 4, 1) := by decide +kernel
theorem dX12_readAsk_3 : decode cX12_readAsk 3 = .ok (.aload_n 0, 1) := by decide +kernel
theorem dX12_readAsk_4 : decode cX12_readAsk 4 = .ok (.getfield 31, 3) := by decide +kernel
theorem dX12_readAsk_7 : decode cX12_readAsk 7 = .ok (.bipush 6, 2) := by decide +kernel
theorem dX12_readAsk_9 : decode cX12_readAsk 9 = .ok (.iaload, 1) := by decide +kernel
theorem dX12_readAsk_10 : decode cX12_readAsk 10 = .ok (.imul, 1) := by decide +kernel
theorem dX12_readAsk_11 : decode cX12_readAsk 11 = .ok (.iadd, 1) := by decide +kernel
theorem dX12_readAsk_12 : decode cX12_readAsk 12 = .ok (.istore_n 1, 1) := by decide +kernel
theorem dX12_readAsk_13 : decode cX12_readAsk 13 = .ok (.aload_n 0, 1) := by decide +kernel
theorem dX12_readAsk_14 : decode cX12_readAsk 14 = .ok (.getfield 31, 3) := by decide +kernel
theorem dX12_readAsk_17 : decode cX12_readAsk 17 = .ok (.iload_n 1, 1) := by decide +kernel
theorem dX12_readAsk_18 : decode cX12_readAsk 18 = .ok (.aload_n 0, 1) := by decide +kernel
theorem dX12_readAsk_19 : decode cX12_readAsk 19 = .ok (.iconst 0, 1) := by decide +kernel
theorem dX12_readAsk_20 : decode cX12_readAsk 20 = .ok (.iconst 1, 1) := by decide +kernel
theorem dX12_readAsk_21 : decode cX12_readAsk 21 = .ok (.invokevirtual 158, 3) := by decide +kernel
theorem dX12_readAsk_24 : decode cX12_readAsk 24 = .ok (.iastore, 1) := by decide +kernel
theorem dX12_readAsk_25 : decode cX12_readAsk 25 = .ok (.aload_n 0, 1) := by decide +kernel
theorem dX12_readAsk_26 : decode cX12_readAsk 26 = .ok (.getfield 31, 3) := by decide +kernel
theorem dX12_readAsk_29 : decode cX12_readAsk 29 = .ok (.iload_n 1, 1) := by decide +kernel
theorem dX12_readAsk_30 : decode cX12_readAsk 30 = .ok (.iconst 1, 1) := by decide +kernel
theorem dX12_readAsk_31 : decode cX12_readAsk 31 = .ok (.iadd, 1) := by decide +kernel
theorem dX12_readAsk_32 : decode cX12_readAsk 32 = .ok (.aload_n 0, 1) := by decide +kernel
theorem dX12_readAsk_33 : decode cX12_readAsk 33 = .ok (.ldc 187, 2) := by decide +kernel
theorem dX12_readAsk_35 : decode cX12_readAsk 35 = .ok (.iconst 0, 1) := by decide +kernel
theorem dX12_readAsk_36 : decode cX12_readAsk 36 = .ok (.bipush 59, 2) := by decide +kernel
theorem dX12_readAsk_38 : decode cX12_readAsk 38 = .ok (.invokevirtual 165, 3) := by decide +kernel
theorem dX12_readAsk_41 : decode cX12_readAsk 41 = .ok (.iastore, 1) := by decide +kernel
theorem dX12_readAsk_42 : decode cX12_readAsk 42 = .ok (.aload_n 0, 1) := by decide +kernel
theorem dX12_readAsk_43 : decode cX12_readAsk 43 = .ok (.getfield 31, 3) := by decide +kernel
theorem dX12_readAsk_46 : decode cX12_readAsk 46 = .ok (.iload_n 1, 1) := by decide +kernel
theorem dX12_readAsk_47 : decode cX12_readAsk 47 = .ok (.iconst 2, 1) := by decide +kernel
theorem dX12_readAsk_48 : decode cX12_readAsk 48 = .ok (.iadd, 1) := by decide +kernel
theorem dX12_readAsk_49 : decode cX12_readAsk 49 = .ok (.aload_n 0, 1) := by decide +kernel
theorem dX12_readAsk_50 : decode cX12_readAsk 50 = .ok (.ldc 188, 2) := by decide +kernel
theorem dX12_readAsk_52 : decode cX12_readAsk 52 = .ok (.iconst 1, 1) := by decide +kernel
theorem dX12_readAsk_53 : decode cX12_readAsk 53 = .ok (.bipush 20, 2) := by decide +kernel
theorem dX12_readAsk_55 : decode cX12_readAsk 55 = .ok (.invokevirtual 165, 3) := by decide +kernel
theorem dX12_readAsk_58 : decode cX12_readAsk 58 = .ok (.iastore, 1) := by decide +kernel
theorem dX12_readAsk_59 : decode cX12_readAsk 59 = .ok (.aload_n 0, 1) := by decide +kernel
theorem dX12_readAsk_60 : decode cX12_readAsk 60 = .ok (.getfield 31, 3) := by decide +kernel
theorem dX12_readAsk_63 : decode cX12_readAsk 63 = .ok (.iload_n 1, 1) := by decide +kernel
theorem dX12_readAsk_64 : decode cX12_readAsk 64 = .ok (.iconst 3, 1) := by decide +kernel
theorem dX12_readAsk_65 : decode cX12_readAsk 65 = .ok (.iadd, 1) := by decide +kernel
theorem dX12_readAsk_66 : decode cX12_readAsk 66 = .ok (.aload_n 0, 1) := by decide +kernel
theorem dX12_readAsk_67 : decode cX12_readAsk 67 = .ok (.ldc 190, 2) := by decide +kernel
theorem dX12_readAsk_69 : decode cX12_readAsk 69 = .ok (.iconst 1, 1) := by decide +kernel
theorem dX12_readAsk_70 : decode cX12_readAsk 70 = .ok (.bipush 99, 2) := by decide +kernel
theorem dX12_readAsk_72 : decode cX12_readAsk 72 = .ok (.invokevirtual 165, 3) := by decide +kernel
theorem dX12_readAsk_75 : decode cX12_readAsk 75 = .ok (.iastore, 1) := by decide +kernel
theorem dX12_readAsk_76 : decode cX12_readAsk 76 = .ok (.aload_n 0, 1) := by decide +kernel
theorem dX12_readAsk_77 : decode cX12_readAsk 77 = .ok (.getfield 31, 3) := by decide +kernel
theorem dX12_readAsk_80 : decode cX12_readAsk 80 = .ok (.bipush 6, 2) := by decide +kernel
theorem dX12_readAsk_82 : decode cX12_readAsk 82 = .ok (.dup2, 1) := by decide +kernel
theorem dX12_readAsk_83 : decode cX12_readAsk 83 = .ok (.iaload, 1) := by decide +kernel
theorem dX12_readAsk_84 : decode cX12_readAsk 84 = .ok (.iconst 1, 1) := by decide +kernel
theorem dX12_readAsk_85 : decode cX12_readAsk 85 = .ok (.iadd, 1) := by decide +kernel
theorem dX12_readAsk_86 : decode cX12_readAsk 86 = .ok (.iastore, 1) := by decide +kernel
theorem dX12_readAsk_87 : decode cX12_readAsk 87 = .ok (.return_, 1) := by decide +kernel
theorem dX12_readSpy_0 : decode cX12_readSpy 0 = .ok (.aload_n 0, 1) := by decide +kernel
theorem dX12_readSpy_1 : decode cX12_readSpy 1 = .ok (.ldc 192, 2) := by decide +kernel
theorem dX12_readSpy_3 : decode cX12_readSpy 3 = .ok (.invokevirtual 154, 3) := by decide +kernel
theorem dX12_readSpy_6 : decode cX12_readSpy 6 = .ok (.iconst 0, 1) := by decide +kernel
theorem dX12_readSpy_7 : decode cX12_readSpy 7 = .ok (.istore_n 1, 1) := by decide +kernel
theorem dX12_readSpy_8 : decode cX12_readSpy 8 = .ok (.aload_n 0, 1) := by decide +kernel
theorem dX12_readSpy_9 : decode cX12_readSpy 9 = .ok (.iconst 0, 1) := by decide +kernel
theorem dX12_readSpy_10 : decode cX12_readSpy 10 = .ok (.aload_n 0, 1) := by decide +kernel
theorem dX12_readSpy_11 : decode cX12_readSpy 11 = .ok (.getfield 31, 3) := by decide +kernel
theorem dX12_readSpy_14 : decode cX12_readSpy 14 = .ok (.iconst 4, 1) := by decide +kernel
theorem dX12_readSpy_15 : decode cX12_readSpy 15 = .ok (.iaload, 1) := by decide +kernel
theorem dX12_readSpy_16 : decode cX12_readSpy 16 = .ok (.iconst 1, 1) := by decide +kernel
theorem dX12_readSpy_17 : decode cX12_readSpy 17 = .ok (.isub, 1) := by decide +kernel
theorem dX12_readSpy_18 : decode cX12_readSpy 18 = .ok (.invokevirtual 158, 3) := by decide +kernel
theorem dX12_readSpy_21 : decode cX12_readSpy 21 = .ok (.istore_n 2, 1) := by decide +kernel
theorem dX12_readSpy_22 : decode cX12_readSpy 22 = .ok (.aload_n 0, 1) := by decide +kernel
theorem dX12_readSpy_23 : decode cX12_readSpy 23 = .ok (.invokevirtual 128, 3) := by decide +kernel
theorem dX12_readSpy_26 : decode cX12_readSpy 26 = .ok (.ifCond .ne 4, 3) := by decide +kernel
theorem dX12_readSpy_29 : decode cX12_readSpy 29 = .ok (.return_, 1) := by decide +kernel
theorem dX12_readSpy_30 : decode cX12_readSpy 30 = .ok (.iload_n 1, 1) := by decide +kernel
theorem dX12_readSpy_31 : decode cX12_readSpy 31 = .ok (.iconst 1, 1) := by decide +kernel
theorem dX12_readSpy_32 : decode cX12_readSpy 32 = .ok (.iload_n 2, 1) := by decide +kernel
theorem dX12_readSpy_33 : decode cX12_readSpy 33 = .ok (.ishl, 1) := by decide +kernel
theorem dX12_readSpy_34 : decode cX12_readSpy 34 = .ok (.ior, 1) := by decide +kernel
theorem dX12_readSpy_35 : decode cX12_readSpy 35 = .ok (.istore_n 1, 1) := by decide +kernel
theorem dX12_readSpy_36 : decode cX12_readSpy 36 = .ok (.aload_n 0, 1) := by decide +kernel
theorem dX12_readSpy_37 : decode cX12_readSpy 37 = .ok (.getfield 105, 3) := by decide +kernel
theorem dX12_readSpy_40 : decode cX12_readSpy 40 = .ok (.iconst 3, 1) := by decide +kernel
theorem dX12_readSpy_41 : decode cX12_readSpy 41 = .ok (.if_icmp .ne (-33), 3) := by decide +kernel
theorem dX12_readSpy_44 : decode cX12_readSpy 44 = .ok (.aload_n 0, 1) := by decide +kernel
theorem dX12_readSpy_45 : decode cX12_readSpy 45 = .ok (.getfield 31, 3) := by decide +kernel
theorem dX12_readSpy_48 : decode cX12_readSpy 48 = .ok (.bipush 115, 2) := by decide +kernel
theorem dX12_readSpy_50 : decode cX12_readSpy 50 = .ok (.aload_n 0, 1) := by decide +kernel
theorem dX12_readSpy_51 : decode cX12_readSpy 51 = .ok (.getfield 31, 3) := by decide +kernel
theorem dX12_readSpy_54 : decode cX12_readSpy 54 = .ok (.bipush 8, 2) := by decide +kernel
theorem dX12_readSpy_56 : decode cX12_readSpy 56 = .ok (.iaload, 1) := by decide +kernel
theorem dX12_readSpy_57 : decode cX12_readSpy 57 = .ok (.iadd, 1) := by decide +kernel
theorem dX12_readSpy_58 : decode cX12_readSpy 58 = .ok (.iload_n 1, 1) := by decide +kernel
theorem dX12_readSpy_59 : decode cX12_readSpy 59 = .ok (.iastore, 1) := by decide +kernel
theorem dX12_readSpy_60 : decode cX12_readSpy 60 = .ok (.aload_n 0, 1) := by decide +kernel
theorem dX12_readSpy_61 : decode cX12_readSpy 61 = .ok (.getfield 31, 3) := by decide +kernel
theorem dX12_readSpy_64 : decode cX12_readSpy 64 = .ok (.bipush 8, 2) := by decide +kernel
theorem dX12_readSpy_66 : decode cX12_readSpy 66 = .ok (.dup2, 1) := by decide +kernel
theorem dX12_readSpy_67 : decode cX12_readSpy 67 = .ok (.iaload, 1) := by decide +kernel
theorem dX12_readSpy_68 : decode cX12_readSpy 68 = .ok (.iconst 1, 1) := by decide +kernel
theorem dX12_readSpy_69 : decode cX12_readSpy 69 = .ok (.iadd, 1) := by decide +kernel
theorem dX12_readSpy_70 : decode cX12_readSpy 70 = .ok (.iastore, 1) := by decide +kernel
theorem dX12_readSpy_71 : decode cX12_readSpy 71 = .ok (.return_, 1) := by decide +kernel
theorem dX12_readNext_0 : decode cX12_readNext 0 = .ok (.aload_n 0, 1) := by decide +kernel
theorem dX12_readNext_1 : decode cX12_readNext 1 = .ok (.ldc 194, 2) := by decide +kernel
theorem dX12_readNext_3 : decode cX12_readNext 3 = .ok (.invokevirtual 140, 3) := by decide +kernel
theorem dX12_readNext_6 : decode cX12_readNext 6 = .ok (.ifCond .ne 48, 3) := by decide +kernel
theorem dX12_readNext_9 : decode cX12_readNext 9 = .ok (.aload_n 0, 1) := by decide +kernel
theorem dX12_readNext_10 : decode cX12_readNext 10 = .ok (.ldc 196, 2) := by decide +kernel
theorem dX12_readNext_12 : decode cX12_readNext 12 = .ok (.invokevirtual 140, 3) := by decide +kernel
theorem dX12_readNext_15 : decode cX12_readNext 15 = .ok (.ifCond .ne 39, 3) := by decide +kernel
theorem dX12_readNext_18 : decode cX12_readNext 18 = .ok (.aload_n 0, 1) := by decide +kernel
theorem dX12_readNext_19 : decode cX12_readNext 19 = .ok (.ldc 198, 2) := by decide +kernel
theorem dX12_readNext_21 : decode cX12_readNext 21 = .ok (.invokevirtual 140, 3) := by decide +kernel
theorem dX12_readNext_24 : decode cX12_readNext 24 = .ok (.ifCond .ne 30, 3) := by decide +kernel
theorem dX12_readNext_27 : decode cX12_readNext 27 = .ok (.aload_n 0, 1) := by decide +kernel
theorem dX12_readNext_28 : decode cX12_readNext 28 = .ok (.ldc 200, 2) := by decide +kernel
theorem dX12_readNext_30 : decode cX12_readNext 30 = .ok (.invokevirtual 140, 3) := by decide +kernel
theorem dX12_readNext_33 : decode cX12_readNext 33 = .ok (.ifCond .ne 21, 3) := by decide +kernel
theorem dX12_readNext_36 : decode cX12_readNext 36 = .ok (.aload_n 0, 1) := by decide +kernel
theorem dX12_readNext_37 : decode cX12_readNext 37 = .ok (.ldc 202, 2) := by decide +kernel
theorem dX12_readNext_39 : decode cX12_readNext 39 = .ok (.invokevirtual 140, 3) := by decide +kernel
theorem dX12_readNext_42 : decode cX12_readNext 42 = .ok (.ifCond .ne 12, 3) := by decide +kernel
theorem dX12_readNext_45 : decode cX12_readNext 45 = .ok (.aload_n 0, 1) := by decide +kernel
theorem dX12_readNext_46 : decode cX12_readNext 46 = .ok (.ldc 204, 2) := by decide +kernel
theorem dX12_readNext_48 : decode cX12_readNext 48 = .ok (.invokevirtual 140, 3) := by decide +kernel
theorem dX12_readNext_51 : decode cX12_readNext 51 = .ok (.ifCond .eq 7, 3) := by decide +kernel
theorem dX12_readNext_54 : decode cX12_readNext 54 = .ok (.iconst 1, 1) := by decide +kernel
theorem dX12_readNext_55 : decode cX12_readNext 55 = .ok (.goto 4, 3) := by decide +kernel
theorem dX12_readNext_58 : decode cX12_readNext 58 = .ok (.iconst 0, 1) := by decide +kernel
theorem dX12_readNext_59 : decode cX12_readNext 59 = .ok (.istore_n 1, 1) := by decide +kernel
theorem dX12_readNext_60 : decode cX12_readNext 60 = .ok (.iload_n 1, 1) := by decide +kernel
theorem dX12_readNext_61 : decode cX12_readNext 61 = .ok (.ifCond .ne 8, 3) := by decide +kernel
theorem dX12_readNext_64 : decode cX12_readNext 64 = .ok (.aload_n 0, 1) := by decide +kernel
theorem dX12_readNext_65 : decode cX12_readNext 65 = .ok (.iconst 1, 1) := by decide +kernel
theorem dX12_readNext_66 : decode cX12_readNext 66 = .ok (.invokevirtual 150, 3) := by decide +kernel
theorem dX12_readNext_69 : decode cX12_readNext 69 = .ok (.aload_n 0, 1) := by decide +kernel
theorem dX12_readNext_70 : decode cX12_readNext 70 = .ok (.ldc 196, 2) := by decide +kernel
theorem dX12_readNext_72 : decode cX12_readNext 72 = .ok (.invokevirtual 140, 3) := by decide +kernel
theorem dX12_readNext_75 : decode cX12_readNext 75 = .ok (.ifCond .eq 14, 3) := by decide +kernel
theorem dX12_readNext_78 : decode cX12_readNext 78 = .ok (.aload_n 0, 1) := by decide +kernel
theorem dX12_readNext_79 : decode cX12_readNext 79 = .ok (.getfield 31, 3) := by decide +kernel
theorem dX12_readNext_82 : decode cX12_readNext 82 = .ok (.iconst 4, 1) := by decide +kernel
theorem dX12_readNext_83 : decode cX12_readNext 83 = .ok (.iaload, 1) := by decide +kernel
theorem dX12_readNext_84 : decode cX12_readNext 84 = .ok (.bipush 9, 2) := by decide +kernel
theorem dX12_readNext_86 : decode cX12_readNext 86 = .ok (.if_icmp .eq 43, 3) := by decide +kernel
theorem dX12_readNext_89 : decode cX12_readNext 89 = .ok (.aload_n 0, 1) := by decide +kernel
theorem dX12_readNext_90 : decode cX12_readNext 90 = .ok (.ldc 198, 2) := by decide +kernel
theorem dX12_readNext_92 : decode cX12_readNext 92 = .ok (.invokevirtual 140, 3) := by decide +kernel
theorem dX12_readNext_95 : decode cX12_readNext 95 = .ok (.ifCond .eq 13, 3) := by decide +kernel
theorem dX12_readNext_98 : decode cX12_readNext 98 = .ok (.aload_n 0, 1) := by decide +kernel
theorem dX12_readNext_99 : decode cX12_readNext 99 = .ok (.getfield 31, 3) := by decide +kernel
theorem dX12_readNext_102 : decode cX12_readNext 102 = .ok (.iconst 5, 1) := by decide +kernel
theorem dX12_readNext_103 : decode cX12_readNext 103 = .ok (.iaload, 1) := by decide +kernel
theorem dX12_readNext_104 : decode cX12_readNext 104 = .ok (.iconst 4, 1) := by decide +kernel
theorem dX12_readNext_105 : decode cX12_readNext 105 = .ok (.if_icmp .eq 24, 3) := by decide +kernel
theorem dX12_readNext_108 : decode cX12_readNext 108 = .ok (.aload_n 0, 1) := by decide +kernel
theorem dX12_readNext_109 : decode cX12_readNext 109 = .ok (.ldc 200, 2) := by decide +kernel
theorem dX12_readNext_111 : decode cX12_readNext 111 = .ok (.invokevirtual 140, 3) := by decide +kernel
theorem dX12_readNext_114 : decode cX12_readNext 114 = .ok (.ifCond .eq 20, 3) := by decide +kernel
theorem dX12_readNext_117 : decode cX12_readNext 117 = .ok (.aload_n 0, 1) := by decide +kernel
theorem dX12_readNext_118 : decode cX12_readNext 118 = .ok (.getfield 31, 3) := by decide +kernel
theorem dX12_readNext_121 : decode cX12_readNext 121 = .ok (.bipush 6, 2) := by decide +kernel
theorem dX12_readNext_123 : decode cX12_readNext 123 = .ok (.iaload, 1) := by decide +kernel
theorem dX12_readNext_124 : decode cX12_readNext 124 = .ok (.bipush 8, 2) := by decide +kernel
theorem dX12_readNext_126 : decode cX12_readNext 126 = .ok (.if_icmp .ne 8, 3) := by decide +kernel
theorem dX12_readNext_129 : decode cX12_readNext 129 = .ok (.aload_n 0, 1) := by decide +kernel
theorem dX12_readNext_130 : decode cX12_readNext 130 = .ok (.iconst 3, 1) := by decide +kernel
theorem dX12_readNext_131 : decode cX12_readNext 131 = .ok (.invokevirtual 150, 3) := by decide +kernel
theorem dX12_readNext_134 : decode cX12_readNext 134 = .ok (.aload_n 0, 1) := by decide +kernel
theorem dX12_readNext_135 : decode cX12_readNext 135 = .ok (.ldc 202, 2) := by decide +kernel
theorem dX12_readNext_137 : decode cX12_readNext 137 = .ok (.invokevirtual 140, 3) := by decide +kernel
theorem dX12_readNext_140 : decode cX12_readNext 140 = .ok (.ifCond .eq 14, 3) := by decide +kernel
theorem dX12_readNext_143 : decode cX12_readNext 143 = .ok (.aload_n 0, 1) := by decide +kernel
theorem dX12_readNext_144 : decode cX12_readNext 144 = .ok (.getfield 31, 3) := by decide +kernel
theorem dX12_readNext_147 : decode cX12_readNext 147 = .ok (.bipush 7, 2) := by decide +kernel
theorem dX12_readNext_149 : decode cX12_readNext 149 = .ok (.iaload, 1) := by decide +kernel
theorem dX12_readNext_150 : decode cX12_readNext 150 = .ok (.iconst 4, 1) := by decide +kernel
theorem dX12_readNext_151 : decode cX12_readNext 151 = .ok (.if_icmp .eq 23, 3) := by decide +kernel
theorem dX12_readNext_154 : decode cX12_readNext 154 = .ok (.aload_n 0, 1) := by decide +kernel
theorem dX12_readNext_155 : decode cX12_readNext 155 = .ok (.ldc 204, 2) := by decide +kernel
theorem dX12_readNext_157 : decode cX12_readNext 157 = .ok (.invokevirtual 140, 3) := by decide +kernel
theorem dX12_readNext_160 : decode cX12_readNext 160 = .ok (.ifCond .eq 19, 3) := by decide +kernel
theorem dX12_readNext_163 : decode cX12_readNext 163 = .ok (.aload_n 0, 1) := by decide +kernel
theorem dX12_readNext_164 : decode cX12_readNext 164 = .ok (.getfield 31, 3) := by decide +kernel
theorem dX12_readNext_167 : decode cX12_readNext 167 = .ok (.bipush 8, 2) := by decide +kernel
theorem dX12_readNext_169 : decode cX12_readNext 169 = .ok (.iaload, 1) := by decide +kernel
theorem dX12_readNext_170 : decode cX12_readNext 170 = .ok (.iconst 5, 1) := by decide +kernel
theorem dX12_readNext_171 : decode cX12_readNext 171 = .ok (.if_icmp .ne 8, 3) := by decide +kernel
theorem dX12_readNext_174 : decode cX12_readNext 174 = .ok (.aload_n 0, 1) := by decide +kernel
theorem dX12_readNext_175 : decode cX12_readNext 175 = .ok (.iconst 3, 1) := by decide +kernel
theorem dX12_readNext_176 : decode cX12_readNext 176 = .ok (.invokevirtual 150, 3) := by decide +kernel
theorem dX12_readNext_179 : decode cX12_readNext 179 = .ok (.aload_n 0, 1) := by decide +kernel
theorem dX12_readNext_180 : decode cX12_readNext 180 = .ok (.invokevirtual 128, 3) := by decide +kernel
theorem dX12_readNext_183 : decode cX12_readNext 183 = .ok (.ifCond .ne 4, 3) := by decide +kernel
theorem dX12_readNext_186 : decode cX12_readNext 186 = .ok (.return_, 1) := by decide +kernel
theorem dX12_readNext_187 : decode cX12_readNext 187 = .ok (.aload_n 0, 1) := by decide +kernel
theorem dX12_readNext_188 : decode cX12_readNext 188 = .ok (.ldc 194, 2) := by decide +kernel
theorem dX12_readNext_190 : decode cX12_readNext 190 = .ok (.invokevirtual 147, 3) := by decide +kernel
theorem dX12_readNext_193 : decode cX12_readNext 193 = .ok (.ifCond .eq 10, 3) := by decide +kernel
theorem dX12_readNext_196 : decode cX12_readNext 196 = .ok (.aload_n 0, 1) := by decide +kernel
theorem dX12_readNext_197 : decode cX12_readNext 197 = .ok (.invokevirtual 206, 3) := by decide +kernel
theorem dX12_readNext_200 : decode cX12_readNext 200 = .ok (.goto 119, 3) := by decide +kernel
theorem dX12_readNext_203 : decode cX12_readNext 203 = .ok (.aload_n 0, 1) := by decide +kernel
theorem dX12_readNext_204 : decode cX12_readNext 204 = .ok (.ldc 196, 2) := by decide +kernel
theorem dX12_readNext_206 : decode cX12_readNext 206 = .ok (.invokevirtual 147, 3) := by decide +kernel
theorem dX12_readNext_209 : decode cX12_readNext 209 = .ok (.ifCond .eq 10, 3) := by decide +kernel
theorem dX12_readNext_212 : decode cX12_readNext 212 = .ok (.aload_n 0, 1) := by decide +kernel
theorem dX12_readNext_213 : decode cX12_readNext 213 = .ok (.invokevirtual 209, 3) := by decide +kernel
theorem dX12_readNext_216 : decode cX12_readNext 216 = .ok (.goto 103, 3) := by decide +kernel
theorem dX12_readNext_219 : decode cX12_readNext 219 = .ok (.aload_n 0, 1) := by decide +kernel
theorem dX12_readNext_220 : decode cX12_readNext 220 = .ok (.ldc 198, 2) := by decide +kernel
theorem dX12_readNext_222 : decode cX12_readNext 222 = .ok (.invokevirtual 147, 3) := by decide +kernel
theorem dX12_readNext_225 : decode cX12_readNext 225 = .ok (.ifCond .eq 31, 3) := by decide +kernel
theorem dX12_readNext_228 : decode cX12_readNext 228 = .ok (.aload_n 0, 1) := by decide +kernel
theorem dX12_readNext_229 : decode cX12_readNext 229 = .ok (.bipush 67, 2) := by decide +kernel
theorem dX12_readNext_231 : decode cX12_readNext 231 = .ok (.iconst 2, 1) := by decide +kernel
theorem dX12_readNext_232 : decode cX12_readNext 232 = .ok (.aload_n 0, 1) := by decide +kernel
theorem dX12_readNext_233 : decode cX12_readNext 233 = .ok (.getfield 31, 3) := by decide +kernel
theorem dX12_readNext_236 : decode cX12_readNext 236 = .ok (.iconst 5, 1) := by decide +kernel
theorem dX12_readNext_237 : decode cX12_readNext 237 = .ok (.iaload, 1) := by decide +kernel
theorem dX12_readNext_238 : decode cX12_readNext 238 = .ok (.imul, 1) := by decide +kernel
theorem dX12_readNext_239 : decode cX12_readNext 239 = .ok (.iadd, 1) := by decide +kernel
theorem dX12_readNext_240 : decode cX12_readNext 240 = .ok (.invokevirtual 212, 3) := by decide +kernel
theorem dX12_readNext_243 : decode cX12_readNext 243 = .ok (.aload_n 0, 1) := by decide +kernel
theorem dX12_readNext_244 : decode cX12_readNext 244 = .ok (.getfield 31, 3) := by decide +kernel
theorem dX12_readNext_247 : decode cX12_readNext 247 = .ok (.iconst 5, 1) := by decide +kernel
theorem dX12_readNext_248 : decode cX12_readNext 248 = .ok (.dup2, 1) := by decide +kernel
theorem dX12_readNext_249 : decode cX12_readNext 249 = .ok (.iaload, 1) := by decide +kernel
theorem dX12_readNext_250 : decode cX12_readNext 250 = .ok (.iconst 1, 1) := by decide +kernel
theorem dX12_readNext_251 : decode cX12_readNext 251 = .ok (.iadd, 1) := by decide +kernel
theorem dX12_readNext_252 : decode cX12_readNext 252 = .ok (.iastore, 1) := by decide +kernel
theorem dX12_readNext_253 : decode cX12_readNext 253 = .ok (.goto 66, 3) := by decide +kernel
theorem dX12_readNext_256 : decode cX12_readNext 256 = .ok (.aload_n 0, 1) := by decide +kernel
theorem dX12_readNext_257 : decode cX12_readNext 257 = .ok (.ldc 200, 2) := by decide +kernel
theorem dX12_readNext_259 : decode cX12_readNext 259 = .ok (.invokevirtual 147, 3) := by decide +kernel
theorem dX12_readNext_262 : decode cX12_readNext 262 = .ok (.ifCond .eq 10, 3) := by decide +kernel
theorem dX12_readNext_265 : decode cX12_readNext 265 = .ok (.aload_n 0, 1) := by decide +kernel
theorem dX12_readNext_266 : decode cX12_readNext 266 = .ok (.invokevirtual 215, 3) := by decide +kernel
theorem dX12_readNext_269 : decode cX12_readNext 269 = .ok (.goto 50, 3) := by decide +kernel
theorem dX12_readNext_272 : decode cX12_readNext 272 = .ok (.aload_n 0, 1) := by decide +kernel
theorem dX12_readNext_273 : decode cX12_readNext 273 = .ok (.ldc 202, 2) := by decide +kernel
theorem dX12_readNext_275 : decode cX12_readNext 275 = .ok (.invokevirtual 147, 3) := by decide +kernel
theorem dX12_readNext_278 : decode cX12_readNext 278 = .ok (.ifCond .eq 33, 3) := by decide +kernel
theorem dX12_readNext_281 : decode cX12_readNext 281 = .ok (.aload_n 0, 1) := by decide +kernel
theorem dX12_readNext_282 : decode cX12_readNext 282 = .ok (.bipush 107, 2) := by decide +kernel
theorem dX12_readNext_284 : decode cX12_readNext 284 = .ok (.iconst 2, 1) := by decide +kernel
theorem dX12_readNext_285 : decode cX12_readNext 285 = .ok (.aload_n 0, 1) := by decide +kernel
theorem dX12_readNext_286 : decode cX12_readNext 286 = .ok (.getfield 31, 3) := by decide +kernel
theorem dX12_readNext_289 : decode cX12_readNext 289 = .ok (.bipush 7, 2) := by decide +kernel
theorem dX12_readNext_291 : decode cX12_readNext 291 = .ok (.iaload, 1) := by decide +kernel
theorem dX12_readNext_292 : decode cX12_readNext 292 = .ok (.imul, 1) := by decide +kernel
theorem dX12_readNext_293 : decode cX12_readNext 293 = .ok (.iadd, 1) := by decide +kernel
theorem dX12_readNext_294 : decode cX12_readNext 294 = .ok (.invokevirtual 212, 3) := by decide +kernel
theorem dX12_readNext_297 : decode cX12_readNext 297 = .ok (.aload_n 0, 1) := by decide +kernel
theorem dX12_readNext_298 : decode cX12_readNext 298 = .ok (.getfield 31, 3) := by decide +kernel
theorem dX12_readNext_301 : decode cX12_readNext 301 = .ok (.bipush 7, 2) := by decide +kernel
theorem dX12_readNext_303 : decode cX12_readNext 303 = .ok (.dup2, 1) := by decide +kernel
theorem dX12_readNext_304 : decode cX12_readNext 304 = .ok (.iaload, 1) := by decide +kernel
theorem dX12_readNext_305 : decode cX12_readNext 305 = .ok (.iconst 1, 1) := by decide +kernel
theorem dX12_readNext_306 : decode cX12_readNext 306 = .ok (.iadd, 1) := by decide +kernel
theorem dX12_readNext_307 : decode cX12_readNext 307 = .ok (.iastore, 1) := by decide +kernel
theorem dX12_readNext_308 : decode cX12_readNext 308 = .ok (.goto 11, 3) := by decide +kernel
theorem dX12_readNext_311 : decode cX12_readNext 311 = .ok (.aload_n 0, 1) := by decide +kernel
theorem dX12_readNext_312 : decode cX12_readNext 312 = .ok (.invokevirtual 144, 3) := by decide +kernel
theorem dX12_readNext_315 : decode cX12_readNext 315 = .ok (.aload_n 0, 1) := by decide +kernel
theorem dX12_readNext_316 : decode cX12_readNext 316 = .ok (.invokevirtual 218, 3) := by decide +kernel
theorem dX12_readNext_319 : decode cX12_readNext 319 = .ok (.return_, 1) := by decide +kernel
theorem dX12_readLine_0 : decode cX12_readLine 0 = .ok (.aload_n 0, 1) := by decide +kernel
theorem dX12_readLine_1 : decode cX12_readLine 1 = .ok (.getfield 31, 3) := by decide +kernel
theorem dX12_readLine_4 : decode cX12_readLine 4 = .ok (.bipush 9, 2) := by decide +kernel
theorem dX12_readLine_6 : decode cX12_readLine 6 = .ok (.iaload, 1) := by decide +kernel
theorem dX12_readLine_7 : decode cX12_readLine 7 = .ok (.ifCond .ne 10, 3) := by decide +kernel
theorem dX12_readLine_10 : decode cX12_readLine 10 = .ok (.aload_n 0, 1) := by decide +kernel
theorem dX12_readLine_11 : decode cX12_readLine 11 = .ok (.invokevirtual 221, 3) := by decide +kernel
theorem dX12_readLine_14 : decode cX12_readLine 14 = .ok (.goto 7, 3) := by decide +kernel
theorem dX12_readLine_17 : decode cX12_readLine 17 = .ok (.aload_n 0, 1) := by decide +kernel
theorem dX12_readLine_18 : decode cX12_readLine 18 = .ok (.invokevirtual 224, 3) := by decide +kernel
theorem dX12_readLine_21 : decode cX12_readLine 21 = .ok (.aload_n 0, 1) := by decide +kernel
theorem dX12_readLine_22 : decode cX12_readLine 22 = .ok (.invokevirtual 128, 3) := by decide +kernel
theorem dX12_readLine_25 : decode cX12_readLine 25 = .ok (.ifCond .eq 16, 3) := by decide +kernel
theorem dX12_readLine_28 : decode cX12_readLine 28 = .ok (.aload_n 0, 1) := by decide +kernel
theorem dX12_readLine_29 : decode cX12_readLine 29 = .ok (.getfield 105, 3) := by decide +kernel
theorem dX12_readLine_32 : decode cX12_readLine 32 = .ok (.iconst 3, 1) := by decide +kernel
theorem dX12_readLine_33 : decode cX12_readLine 33 = .ok (.if_icmp .eq 8, 3) := by decide +kernel
theorem dX12_readLine_36 : decode cX12_readLine 36 = .ok (.aload_n 0, 1) := by decide +kernel
theorem dX12_readLine_37 : decode cX12_readLine 37 = .ok (.iconst 1, 1) := by decide +kernel
theorem dX12_readLine_38 : decode cX12_readLine 38 = .ok (.invokevirtual 150, 3) := by decide +kernel
theorem dX12_readLine_41 : decode cX12_readLine 41 = .ok (.aload_n 0, 1) := by decide +kernel
theorem dX12_readLine_42 : decode cX12_readLine 42 = .ok (.invokevirtual 128, 3) := by decide +kernel
theorem dX12_readLine_45 : decode cX12_readLine 45 = .ok (.ifCond .eq 7, 3) := by decide +kernel
theorem dX12_readLine_48 : decode cX12_readLine 48 = .ok (.aload_n 0, 1) := by decide +kernel
theorem dX12_readLine_49 : decode cX12_readLine 49 = .ok (.invokevirtual 144, 3) := by decide +kernel
theorem dX12_readLine_52 : decode cX12_readLine 52 = .ok (.aload_n 0, 1) := by decide +kernel
theorem dX12_readLine_53 : decode cX12_readLine 53 = .ok (.getfield 31, 3) := by decide +kernel
theorem dX12_readLine_56 : decode cX12_readLine 56 = .ok (.bipush 9, 2) := by decide +kernel
theorem dX12_readLine_58 : decode cX12_readLine 58 = .ok (.dup2, 1) := by decide +kernel
theorem dX12_readLine_59 : decode cX12_readLine 59 = .ok (.iaload, 1) := by decide +kernel
theorem dX12_readLine_60 : decode cX12_readLine 60 = .ok (.iconst 1, 1) := by decide +kernel
theorem dX12_readLine_61 : decode cX12_readLine 61 = .ok (.iadd, 1) := by decide +kernel
theorem dX12_readLine_62 : decode cX12_readLine 62 = .ok (.iastore, 1) := by decide +kernel
theorem dX12_readLine_63 : decode cX12_readLine 63 = .ok (.return_, 1) := by decide +kernel
theorem dX12_war_0 : decode cX12_war 0 = .ok (.aload_n 0, 1) := by decide +kernel
theorem dX12_war_1 : decode cX12_war 1 = .ok (.aload_n 0, 1) := by decide +kernel
theorem dX12_war_2 : decode cX12_war 2 = .ok (.getfield 89, 3) := by decide +kernel
theorem dX12_war_5 : decode cX12_war 5 = .ok (.putfield 92, 3) := by decide +kernel
theorem dX12_war_8 : decode cX12_war 8 = .ok (.aload_n 0, 1) := by decide +kernel
theorem dX12_war_9 : decode cX12_war 9 = .ok (.iconst 0, 1) := by decide +kernel
theorem dX12_war_10 : decode cX12_war 10 = .ok (.putfield 89, 3) := by decide +kernel
theorem dX12_war_13 : decode cX12_war 13 = .ok (.aload_n 0, 1) := by decide +kernel
theorem dX12_war_14 : decode cX12_war 14 = .ok (.iconst 0, 1) := by decide +kernel
theorem dX12_war_15 : decode cX12_war 15 = .ok (.putfield 95, 3) := by decide +kernel
theorem dX12_war_18 : decode cX12_war 18 = .ok (.aload_n 0, 1) := by decide +kernel
theorem dX12_war_19 : decode cX12_war 19 = .ok (.iconst 0, 1) := by decide +kernel
theorem dX12_war_20 : decode cX12_war 20 = .ok (.putfield 125, 3) := by decide +kernel
theorem dX12_war_23 : decode cX12_war 23 = .ok (.aload_n 0, 1) := by decide +kernel
theorem dX12_war_24 : decode cX12_war 24 = .ok (.iconst (-1), 1) := by decide +kernel
theorem dX12_war_25 : decode cX12_war 25 = .ok (.putfield 27, 3) := by decide +kernel
theorem dX12_war_28 : decode cX12_war 28 = .ok (.iconst 0, 1) := by decide +kernel
theorem dX12_war_29 : decode cX12_war 29 = .ok (.istore_n 1, 1) := by decide +kernel
theorem dX12_war_30 : decode cX12_war 30 = .ok (.iload_n 1, 1) := by decide +kernel
theorem dX12_war_31 : decode cX12_war 31 = .ok (.sipush 240, 3) := by decide +kernel
theorem dX12_war_34 : decode cX12_war 34 = .ok (.if_icmp .ge 16, 3) := by decide +kernel
theorem dX12_war_37 : decode cX12_war 37 = .ok (.aload_n 0, 1) := by decide +kernel
theorem dX12_war_38 : decode cX12_war 38 = .ok (.getfield 31, 3) := by decide +kernel
theorem dX12_war_41 : decode cX12_war 41 = .ok (.iload_n 1, 1) := by decide +kernel
theorem dX12_war_42 : decode cX12_war 42 = .ok (.iconst 0, 1) := by decide +kernel
theorem dX12_war_43 : decode cX12_war 43 = .ok (.iastore, 1) := by decide +kernel
theorem dX12_war_44 : decode cX12_war 44 = .ok (.iinc 1 1, 3) := by decide +kernel
theorem dX12_war_47 : decode cX12_war 47 = .ok (.goto (-17), 3) := by decide +kernel
theorem dX12_war_50 : decode cX12_war 50 = .ok (.aload_n 0, 1) := by decide +kernel
theorem dX12_war_51 : decode cX12_war 51 = .ok (.invokevirtual 144, 3) := by decide +kernel
theorem dX12_war_54 : decode cX12_war 54 = .ok (.aload_n 0, 1) := by decide +kernel
theorem dX12_war_55 : decode cX12_war 55 = .ok (.invokevirtual 128, 3) := by decide +kernel
theorem dX12_war_58 : decode cX12_war 58 = .ok (.ifCond .eq 17, 3) := by decide +kernel
theorem dX12_war_61 : decode cX12_war 61 = .ok (.aload_n 0, 1) := by decide +kernel
theorem dX12_war_62 : decode cX12_war 62 = .ok (.getfield 105, 3) := by decide +kernel
theorem dX12_war_65 : decode cX12_war 65 = .ok (.ifCond .eq 10, 3) := by decide +kernel
theorem dX12_war_68 : decode cX12_war 68 = .ok (.aload_n 0, 1) := by decide +kernel
theorem dX12_war_69 : decode cX12_war 69 = .ok (.invokevirtual 227, 3) := by decide +kernel
theorem dX12_war_72 : decode cX12_war 72 = .ok (.goto (-18), 3) := by decide +kernel
theorem dX12_war_75 : decode cX12_war 75 = .ok (.aload_n 0, 1) := by decide +kernel
theorem dX12_war_76 : decode cX12_war 76 = .ok (.invokevirtual 128, 3) := by decide +kernel
theorem dX12_war_79 : decode cX12_war 79 = .ok (.ifCond .ne 6, 3) := by decide +kernel
theorem dX12_war_82 : decode cX12_war 82 = .ok (.bipush (-4), 2) := by decide +kernel
theorem dX12_war_84 : decode cX12_war 84 = .ok (.ireturn, 1) := by decide +kernel
theorem dX12_war_85 : decode cX12_war 85 = .ok (.iconst 0, 1) := by decide +kernel
theorem dX12_war_86 : decode cX12_war 86 = .ok (.istore_n 1, 1) := by decide +kernel
theorem dX12_war_87 : decode cX12_war 87 = .ok (.iload_n 1, 1) := by decide +kernel
theorem dX12_war_88 : decode cX12_war 88 = .ok (.sipush 240, 3) := by decide +kernel
theorem dX12_war_91 : decode cX12_war 91 = .ok (.if_icmp .ge 21, 3) := by decide +kernel
theorem dX12_war_94 : decode cX12_war 94 = .ok (.aload_n 0, 1) := by decide +kernel
theorem dX12_war_95 : decode cX12_war 95 = .ok (.getfield 9, 3) := by decide +kernel
theorem dX12_war_98 : decode cX12_war 98 = .ok (.iload_n 1, 1) := by decide +kernel
theorem dX12_war_99 : decode cX12_war 99 = .ok (.aload_n 0, 1) := by decide +kernel
theorem dX12_war_100 : decode cX12_war 100 = .ok (.getfield 31, 3) := by decide +kernel
theorem dX12_war_103 : decode cX12_war 103 = .ok (.iload_n 1, 1) := by decide +kernel
theorem dX12_war_104 : decode cX12_war 104 = .ok (.iaload, 1) := by decide +kernel
theorem dX12_war_105 : decode cX12_war 105 = .ok (.iastore, 1) := by decide +kernel
theorem dX12_war_106 : decode cX12_war 106 = .ok (.iinc 1 1, 3) := by decide +kernel
theorem dX12_war_109 : decode cX12_war 109 = .ok (.goto (-22), 3) := by decide +kernel
theorem dX12_war_112 : decode cX12_war 112 = .ok (.aload_n 0, 1) := by decide +kernel
theorem dX12_war_113 : decode cX12_war 113 = .ok (.getfield 9, 3) := by decide +kernel
theorem dX12_war_116 : decode cX12_war 116 = .ok (.bipush 9, 2) := by decide +kernel
theorem dX12_war_118 : decode cX12_war 118 = .ok (.iaload, 1) := by decide +kernel
theorem dX12_war_119 : decode cX12_war 119 = .ok (.ireturn, 1) := by decide +kernel
theorem dX12_train_0 : decode cX12_train 0 = .ok (.aload_n 0, 1) := by decide +kernel
theorem dX12_train_1 : decode cX12_train 1 = .ok (.iload_n 1, 1) := by decide +kernel
theorem dX12_train_2 : decode cX12_train 2 = .ok (.invokevirtual 230, 3) := by decide +kernel
theorem dX12_train_5 : decode cX12_train 5 = .ok (.ifCond .eq 24, 3) := by decide +kernel
theorem dX12_train_8 : decode cX12_train 8 = .ok (.iload_n 2, 1) := by decide +kernel
theorem dX12_train_9 : decode cX12_train 9 = .ok (.i2l, 1) := by decide +kernel
theorem dX12_train_10 : decode cX12_train 10 = .ok (.lconst 0, 1) := by decide +kernel
theorem dX12_train_11 : decode cX12_train 11 = .ok (.ldc2_w 234, 3) := by decide +kernel
theorem dX12_train_14 : decode cX12_train 14 = .ok (.invokestatic 70, 3) := by decide +kernel
theorem dX12_train_17 : decode cX12_train 17 = .ok (.ifCond .eq 12, 3) := by decide +kernel
theorem dX12_train_20 : decode cX12_train 20 = .ok (.aload_n 0, 1) := by decide +kernel
theorem dX12_train_21 : decode cX12_train 21 = .ok (.iload_n 1, 1) := by decide +kernel
theorem dX12_train_22 : decode cX12_train 22 = .ok (.iload_n 2, 1) := by decide +kernel
theorem dX12_train_23 : decode cX12_train 23 = .ok (.invokevirtual 82, 3) := by decide +kernel
theorem dX12_train_26 : decode cX12_train 26 = .ok (.goto 5, 3) := by decide +kernel
theorem dX12_train_29 : decode cX12_train 29 = .ok (.bipush (-2), 2) := by decide +kernel
theorem dX12_train_31 : decode cX12_train 31 = .ok (.ireturn, 1) := by decide +kernel
theorem dX12_need_0 : decode cX12_need 0 = .ok (.aload_n 0, 1) := by decide +kernel
theorem dX12_need_1 : decode cX12_need 1 = .ok (.iload_n 1, 1) := by decide +kernel
theorem dX12_need_2 : decode cX12_need 2 = .ok (.invokevirtual 236, 3) := by decide +kernel
theorem dX12_need_5 : decode cX12_need 5 = .ok (.ifCond .eq 15, 3) := by decide +kernel
theorem dX12_need_8 : decode cX12_need 8 = .ok (.aload_n 0, 1) := by decide +kernel
theorem dX12_need_9 : decode cX12_need 9 = .ok (.getfield 9, 3) := by decide +kernel
theorem dX12_need_12 : decode cX12_need 12 = .ok (.bipush 11, 2) := by decide +kernel
theorem dX12_need_14 : decode cX12_need 14 = .ok (.iload_n 1, 1) := by decide +kernel
theorem dX12_need_15 : decode cX12_need 15 = .ok (.iadd, 1) := by decide +kernel
theorem dX12_need_16 : decode cX12_need 16 = .ok (.iaload, 1) := by decide +kernel
theorem dX12_need_17 : decode cX12_need 17 = .ok (.goto 5, 3) := by decide +kernel
theorem dX12_need_20 : decode cX12_need 20 = .ok (.bipush (-2), 2) := by decide +kernel
theorem dX12_need_22 : decode cX12_need 22 = .ok (.ireturn, 1) := by decide +kernel
theorem dX12_isTea_0 : decode cX12_isTea 0 = .ok (.iconst 0, 1) := by decide +kernel
theorem dX12_isTea_1 : decode cX12_isTea 1 = .ok (.istore_n 2, 1) := by decide +kernel
theorem dX12_isTea_2 : decode cX12_isTea 2 = .ok (.iload_n 2, 1) := by decide +kernel
theorem dX12_isTea_3 : decode cX12_isTea 3 = .ok (.aload_n 0, 1) := by decide +kernel
theorem dX12_isTea_4 : decode cX12_isTea 4 = .ok (.getfield 9, 3) := by decide +kernel
theorem dX12_isTea_7 : decode cX12_isTea 7 = .ok (.iconst 5, 1) := by decide +kernel
theorem dX12_isTea_8 : decode cX12_isTea 8 = .ok (.iaload, 1) := by decide +kernel
theorem dX12_isTea_9 : decode cX12_isTea 9 = .ok (.if_icmp .ge 45, 3) := by decide +kernel
theorem dX12_isTea_12 : decode cX12_isTea 12 = .ok (.iload_n 1, 1) := by decide +kernel
theorem dX12_isTea_13 : decode cX12_isTea 13 = .ok (.i2l, 1) := by decide +kernel
theorem dX12_isTea_14 : decode cX12_isTea 14 = .ok (.aload_n 0, 1) := by decide +kernel
theorem dX12_isTea_15 : decode cX12_isTea 15 = .ok (.getfield 9, 3) := by decide +kernel
theorem dX12_isTea_18 : decode cX12_isTea 18 = .ok (.bipush 67, 2) := by decide +kernel
theorem dX12_isTea_20 : decode cX12_isTea 20 = .ok (.iconst 2, 1) := by decide +kernel
theorem dX12_isTea_21 : decode cX12_isTea 21 = .ok (.iload_n 2, 1) := by decide +kernel
theorem dX12_isTea_22 : decode cX12_isTea 22 = .ok (.imul, 1) := by decide +kernel
theorem dX12_isTea_23 : decode cX12_isTea 23 = .ok (.iadd, 1) := by decide +kernel
theorem dX12_isTea_24 : decode cX12_isTea 24 = .ok (.iaload, 1) := by decide +kernel
theorem dX12_isTea_25 : decode cX12_isTea 25 = .ok (.i2l, 1) := by decide +kernel
theorem dX12_isTea_26 : decode cX12_isTea 26 = .ok (.aload_n 0, 1) := by decide +kernel
theorem dX12_isTea_27 : decode cX12_isTea 27 = .ok (.getfield 9, 3) := by decide +kernel
theorem dX12_isTea_30 : decode cX12_isTea 30 = .ok (.bipush 67, 2) := by decide +kernel
theorem dX12_isTea_32 : decode cX12_isTea 32 = .ok (.iconst 2, 1) := by decide +kernel
theorem dX12_isTea_33 : decode cX12_isTea 33 = .ok (.iload_n 2, 1) := by decide +kernel
theorem dX12_isTea_34 : decode cX12_isTea 34 = .ok (.imul, 1) := by decide +kernel
theorem dX12_isTea_35 : decode cX12_isTea 35 = .ok (.iadd, 1) := by decide +kernel
theorem dX12_isTea_36 : decode cX12_isTea 36 = .ok (.iconst 1, 1) := by decide +kernel
theorem dX12_isTea_37 : decode cX12_isTea 37 = .ok (.iadd, 1) := by decide +kernel
theorem dX12_isTea_38 : decode cX12_isTea 38 = .ok (.iaload, 1) := by decide +kernel
theorem dX12_isTea_39 : decode cX12_isTea 39 = .ok (.i2l, 1) := by decide +kernel
theorem dX12_isTea_40 : decode cX12_isTea 40 = .ok (.invokestatic 70, 3) := by decide +kernel
theorem dX12_isTea_43 : decode cX12_isTea 43 = .ok (.ifCond .eq 5, 3) := by decide +kernel
theorem dX12_isTea_46 : decode cX12_isTea 46 = .ok (.iconst 1, 1) := by decide +kernel
theorem dX12_isTea_47 : decode cX12_isTea 47 = .ok (.ireturn, 1) := by decide +kernel
theorem dX12_isTea_48 : decode cX12_isTea 48 = .ok (.iinc 2 1, 3) := by decide +kernel
theorem dX12_isTea_51 : decode cX12_isTea 51 = .ok (.goto (-49), 3) := by decide +kernel
theorem dX12_isTea_54 : decode cX12_isTea 54 = .ok (.iconst 0, 1) := by decide +kernel
theorem dX12_isTea_55 : decode cX12_isTea 55 = .ok (.ireturn, 1) := by decide +kernel
theorem dX12_tea_0 : decode cX12_tea 0 = .ok (.aload_n 0, 1) := by decide +kernel
theorem dX12_tea_1 : decode cX12_tea 1 = .ok (.invokevirtual 74, 3) := by decide +kernel
theorem dX12_tea_4 : decode cX12_tea 4 = .ok (.ifCond .eq 37, 3) := by decide +kernel
theorem dX12_tea_7 : decode cX12_tea 7 = .ok (.iload_n 1, 1) := by decide +kernel
theorem dX12_tea_8 : decode cX12_tea 8 = .ok (.i2l, 1) := by decide +kernel
theorem dX12_tea_9 : decode cX12_tea 9 = .ok (.lconst 0, 1) := by decide +kernel
theorem dX12_tea_10 : decode cX12_tea 10 = .ok (.aload_n 0, 1) := by decide +kernel
theorem dX12_tea_11 : decode cX12_tea 11 = .ok (.getfield 9, 3) := by decide +kernel
theorem dX12_tea_14 : decode cX12_tea 14 = .ok (.iconst 0, 1) := by decide +kernel
theorem dX12_tea_15 : decode cX12_tea 15 = .ok (.iaload, 1) := by decide +kernel
theorem dX12_tea_16 : decode cX12_tea 16 = .ok (.iconst 1, 1) := by decide +kernel
theorem dX12_tea_17 : decode cX12_tea 17 = .ok (.isub, 1) := by decide +kernel
theorem dX12_tea_18 : decode cX12_tea 18 = .ok (.i2l, 1) := by decide +kernel
theorem dX12_tea_19 : decode cX12_tea 19 = .ok (.invokestatic 70, 3) := by decide +kernel
theorem dX12_tea_22 : decode cX12_tea 22 = .ok (.ifCond .eq 19, 3) := by decide +kernel
theorem dX12_tea_25 : decode cX12_tea 25 = .ok (.aload_n 0, 1) := by decide +kernel
theorem dX12_tea_26 : decode cX12_tea 26 = .ok (.iload_n 1, 1) := by decide +kernel
theorem dX12_tea_27 : decode cX12_tea 27 = .ok (.invokevirtual 239, 3) := by decide +kernel
theorem dX12_tea_30 : decode cX12_tea 30 = .ok (.ifCond .eq 7, 3) := by decide +kernel
theorem dX12_tea_33 : decode cX12_tea 33 = .ok (.iconst 1, 1) := by decide +kernel
theorem dX12_tea_34 : decode cX12_tea 34 = .ok (.goto 9, 3) := by decide +kernel
theorem dX12_tea_37 : decode cX12_tea 37 = .ok (.iconst 0, 1) := by decide +kernel
theorem dX12_tea_38 : decode cX12_tea 38 = .ok (.goto 5, 3) := by decide +kernel
theorem dX12_tea_41 : decode cX12_tea 41 = .ok (.bipush (-2), 2) := by decide +kernel
theorem dX12_tea_43 : decode cX12_tea 43 = .ok (.ireturn, 1) := by decide +kernel
theorem dX12_cannon_0 : decode cX12_cannon 0 = .ok (.iload_n 1, 1) := by decide +kernel
theorem dX12_cannon_1 : decode cX12_cannon 1 = .ok (.i2l, 1) := by decide +kernel
theorem dX12_cannon_2 : decode cX12_cannon 2 = .ok (.lconst 0, 1) := by decide +kernel
theorem dX12_cannon_3 : decode cX12_cannon 3 = .ok (.aload_n 0, 1) := by decide +kernel
theorem dX12_cannon_4 : decode cX12_cannon 4 = .ok (.getfield 9, 3) := by decide +kernel
theorem dX12_cannon_7 : decode cX12_cannon 7 = .ok (.bipush 6, 2) := by decide +kernel
theorem dX12_cannon_9 : decode cX12_cannon 9 = .ok (.iaload, 1) := by decide +kernel
theorem dX12_cannon_10 : decode cX12_cannon 10 = .ok (.iconst 1, 1) := by decide +kernel
theorem dX12_cannon_11 : decode cX12_cannon 11 = .ok (.isub, 1) := by decide +kernel
theorem dX12_cannon_12 : decode cX12_cannon 12 = .ok (.i2l, 1) := by decide +kernel
theorem dX12_cannon_13 : decode cX12_cannon 13 = .ok (.invokestatic 70, 3) := by decide +kernel
theorem dX12_cannon_16 : decode cX12_cannon 16 = .ok (.ifCond .eq 31, 3) := by decide +kernel
theorem dX12_cannon_19 : decode cX12_cannon 19 = .ok (.iload_n 2, 1) := by decide +kernel
theorem dX12_cannon_20 : decode cX12_cannon 20 = .ok (.i2l, 1) := by decide +kernel
theorem dX12_cannon_21 : decode cX12_cannon 21 = .ok (.lconst 0, 1) := by decide +kernel
theorem dX12_cannon_22 : decode cX12_cannon 22 = .ok (.ldc2_w 242, 3) := by decide +kernel
theorem dX12_cannon_25 : decode cX12_cannon 25 = .ok (.invokestatic 70, 3) := by decide +kernel
theorem dX12_cannon_28 : decode cX12_cannon 28 = .ok (.ifCond .eq 19, 3) := by decide +kernel
theorem dX12_cannon_31 : decode cX12_cannon 31 = .ok (.aload_n 0, 1) := by decide +kernel
theorem dX12_cannon_32 : decode cX12_cannon 32 = .ok (.getfield 9, 3) := by decide +kernel
theorem dX12_cannon_35 : decode cX12_cannon 35 = .ok (.bipush 75, 2) := by decide +kernel
theorem dX12_cannon_37 : decode cX12_cannon 37 = .ok (.iconst 4, 1) := by decide +kernel
theorem dX12_cannon_38 : decode cX12_cannon 38 = .ok (.iload_n 1, 1) := by decide +kernel
theorem dX12_cannon_39 : decode cX12_cannon 39 = .ok (.imul, 1) := by decide +kernel
theorem dX12_cannon_40 : decode cX12_cannon 40 = .ok (.iadd, 1) := by decide +kernel
theorem dX12_cannon_41 : decode cX12_cannon 41 = .ok (.iload_n 2, 1) := by decide +kernel
theorem dX12_cannon_42 : decode cX12_cannon 42 = .ok (.iadd, 1) := by decide +kernel
theorem dX12_cannon_43 : decode cX12_cannon 43 = .ok (.iaload, 1) := by decide +kernel
theorem dX12_cannon_44 : decode cX12_cannon 44 = .ok (.goto 5, 3) := by decide +kernel
theorem dX12_cannon_47 : decode cX12_cannon 47 = .ok (.bipush (-2), 2) := by decide +kernel
theorem dX12_cannon_49 : decode cX12_cannon 49 = .ok (.ireturn, 1) := by decide +kernel
theorem dX12_rule_0 : decode cX12_rule 0 = .ok (.iload_n 1, 1) := by decide +kernel
theorem dX12_rule_1 : decode cX12_rule 1 = .ok (.i2l, 1) := by decide +kernel
theorem dX12_rule_2 : decode cX12_rule 2 = .ok (.lconst 0, 1) := by decide +kernel
theorem dX12_rule_3 : decode cX12_rule 3 = .ok (.aload_n 0, 1) := by decide +kernel
theorem dX12_rule_4 : decode cX12_rule 4 = .ok (.getfield 9, 3) := by decide +kernel
theorem dX12_rule_7 : decode cX12_rule 7 = .ok (.bipush 7, 2) := by decide +kernel
theorem dX12_rule_9 : decode cX12_rule 9 = .ok (.iaload, 1) := by decide +kernel
theorem dX12_rule_10 : decode cX12_rule 10 = .ok (.iconst 1, 1) := by decide +kernel
theorem dX12_rule_11 : decode cX12_rule 11 = .ok (.isub, 1) := by decide +kernel
theorem dX12_rule_12 : decode cX12_rule 12 = .ok (.i2l, 1) := by decide +kernel
theorem dX12_rule_13 : decode cX12_rule 13 = .ok (.invokestatic 70, 3) := by decide +kernel
theorem dX12_rule_16 : decode cX12_rule 16 = .ok (.ifCond .eq 29, 3) := by decide +kernel
theorem dX12_rule_19 : decode cX12_rule 19 = .ok (.iload_n 2, 1) := by decide +kernel
theorem dX12_rule_20 : decode cX12_rule 20 = .ok (.i2l, 1) := by decide +kernel
theorem dX12_rule_21 : decode cX12_rule 21 = .ok (.lconst 0, 1) := by decide +kernel
theorem dX12_rule_22 : decode cX12_rule 22 = .ok (.lconst 1, 1) := by decide +kernel
theorem dX12_rule_23 : decode cX12_rule 23 = .ok (.invokestatic 70, 3) := by decide +kernel
theorem dX12_rule_26 : decode cX12_rule 26 = .ok (.ifCond .eq 19, 3) := by decide +kernel
theorem dX12_rule_29 : decode cX12_rule 29 = .ok (.aload_n 0, 1) := by decide +kernel
theorem dX12_rule_30 : decode cX12_rule 30 = .ok (.getfield 9, 3) := by decide +kernel
theorem dX12_rule_33 : decode cX12_rule 33 = .ok (.bipush 107, 2) := by decide +kernel
theorem dX12_rule_35 : decode cX12_rule 35 = .ok (.iconst 2, 1) := by decide +kernel
theorem dX12_rule_36 : decode cX12_rule 36 = .ok (.iload_n 1, 1) := by decide +kernel
theorem dX12_rule_37 : decode cX12_rule 37 = .ok (.imul, 1) := by decide +kernel
theorem dX12_rule_38 : decode cX12_rule 38 = .ok (.iadd, 1) := by decide +kernel
theorem dX12_rule_39 : decode cX12_rule 39 = .ok (.iload_n 2, 1) := by decide +kernel
theorem dX12_rule_40 : decode cX12_rule 40 = .ok (.iadd, 1) := by decide +kernel
theorem dX12_rule_41 : decode cX12_rule 41 = .ok (.iaload, 1) := by decide +kernel
theorem dX12_rule_42 : decode cX12_rule 42 = .ok (.goto 5, 3) := by decide +kernel
theorem dX12_rule_45 : decode cX12_rule 45 = .ok (.bipush (-2), 2) := by decide +kernel
theorem dX12_rule_47 : decode cX12_rule 47 = .ok (.ireturn, 1) := by decide +kernel
theorem dX12_spy_0 : decode cX12_spy 0 = .ok (.iload_n 1, 1) := by decide +kernel
theorem dX12_spy_1 : decode cX12_spy 1 = .ok (.i2l, 1) := by decide +kernel
theorem dX12_spy_2 : decode cX12_spy 2 = .ok (.lconst 0, 1) := by decide +kernel
theorem dX12_spy_3 : decode cX12_spy 3 = .ok (.aload_n 0, 1) := by decide +kernel
theorem dX12_spy_4 : decode cX12_spy 4 = .ok (.getfield 9, 3) := by decide +kernel
theorem dX12_spy_7 : decode cX12_spy 7 = .ok (.bipush 8, 2) := by decide +kernel
theorem dX12_spy_9 : decode cX12_spy 9 = .ok (.iaload, 1) := by decide +kernel
theorem dX12_spy_10 : decode cX12_spy 10 = .ok (.iconst 1, 1) := by decide +kernel
theorem dX12_spy_11 : decode cX12_spy 11 = .ok (.isub, 1) := by decide +kernel
theorem dX12_spy_12 : decode cX12_spy 12 = .ok (.i2l, 1) := by decide +kernel
theorem dX12_spy_13 : decode cX12_spy 13 = .ok (.invokestatic 70, 3) := by decide +kernel
theorem dX12_spy_16 : decode cX12_spy 16 = .ok (.ifCond .eq 15, 3) := by decide +kernel
theorem dX12_spy_19 : decode cX12_spy 19 = .ok (.aload_n 0, 1) := by decide +kernel
theorem dX12_spy_20 : decode cX12_spy 20 = .ok (.getfield 9, 3) := by decide +kernel
theorem dX12_spy_23 : decode cX12_spy 23 = .ok (.bipush 115, 2) := by decide +kernel
theorem dX12_spy_25 : decode cX12_spy 25 = .ok (.iload_n 1, 1) := by decide +kernel
theorem dX12_spy_26 : decode cX12_spy 26 = .ok (.iadd, 1) := by decide +kernel
theorem dX12_spy_27 : decode cX12_spy 27 = .ok (.iaload, 1) := by decide +kernel
theorem dX12_spy_28 : decode cX12_spy 28 = .ok (.goto 5, 3) := by decide +kernel
theorem dX12_spy_31 : decode cX12_spy 31 = .ok (.bipush (-2), 2) := by decide +kernel
theorem dX12_spy_33 : decode cX12_spy 33 = .ok (.ireturn, 1) := by decide +kernel
theorem dX12_comesAt_0 : decode cX12_comesAt 0 = .ok (.aload_n 0, 1) := by decide +kernel
theorem dX12_comesAt_1 : decode cX12_comesAt 1 = .ok (.iload_n 1, 1) := by decide +kernel
theorem dX12_comesAt_2 : decode cX12_comesAt 2 = .ok (.iconst 2, 1) := by decide +kernel
theorem dX12_comesAt_3 : decode cX12_comesAt 3 = .ok (.invokevirtual 82, 3) := by decide +kernel
theorem dX12_comesAt_6 : decode cX12_comesAt 6 = .ok (.iload_n 2, 1) := by decide +kernel
theorem dX12_comesAt_7 : decode cX12_comesAt 7 = .ok (.iload_n 1, 1) := by decide +kernel
theorem dX12_comesAt_8 : decode cX12_comesAt 8 = .ok (.invokestatic 86, 3) := by decide +kernel
theorem dX12_comesAt_11 : decode cX12_comesAt 11 = .ok (.aload_n 0, 1) := by decide +kernel
theorem dX12_comesAt_12 : decode cX12_comesAt 12 = .ok (.iload_n 1, 1) := by decide +kernel
theorem dX12_comesAt_13 : decode cX12_comesAt 13 = .ok (.iconst 4, 1) := by decide +kernel
theorem dX12_comesAt_14 : decode cX12_comesAt 14 = .ok (.invokevirtual 82, 3) := by decide +kernel
theorem dX12_comesAt_17 : decode cX12_comesAt 17 = .ok (.imul, 1) := by decide +kernel
theorem dX12_comesAt_18 : decode cX12_comesAt 18 = .ok (.iadd, 1) := by decide +kernel
theorem dX12_comesAt_19 : decode cX12_comesAt 19 = .ok (.ireturn, 1) := by decide +kernel
theorem dX12_menOf_0 : decode cX12_menOf 0 = .ok (.iconst 0, 1) := by decide +kernel
theorem dX12_menOf_1 : decode cX12_menOf 1 = .ok (.istore 4, 2) := by decide +kernel
theorem dX12_menOf_3 : decode cX12_menOf 3 = .ok (.iconst 0, 1) := by decide +kernel
theorem dX12_menOf_4 : decode cX12_menOf 4 = .ok (.istore 5, 2) := by decide +kernel
theorem dX12_menOf_6 : decode cX12_menOf 6 = .ok (.iload 5, 2) := by decide +kernel
theorem dX12_menOf_8 : decode cX12_menOf 8 = .ok (.aload_n 0, 1) := by decide +kernel
theorem dX12_menOf_9 : decode cX12_menOf 9 = .ok (.getfield 9, 3) := by decide +kernel
theorem dX12_menOf_12 : decode cX12_menOf 12 = .ok (.iconst 4, 1) := by decide +kernel
theorem dX12_menOf_13 : decode cX12_menOf 13 = .ok (.iaload, 1) := by decide +kernel
theorem dX12_menOf_14 : decode cX12_menOf 14 = .ok (.if_icmp .ge 47, 3) := by decide +kernel
theorem dX12_menOf_17 : decode cX12_menOf 17 = .ok (.iload 4, 2) := by decide +kernel
theorem dX12_menOf_19 : decode cX12_menOf 19 = .ok (.aload_n 0, 1) := by decide +kernel
theorem dX12_menOf_20 : decode cX12_menOf 20 = .ok (.iload 5, 2) := by decide +kernel
theorem dX12_menOf_22 : decode cX12_menOf 22 = .ok (.iconst 0, 1) := by decide +kernel
theorem dX12_menOf_23 : decode cX12_menOf 23 = .ok (.invokevirtual 82, 3) := by decide +kernel
theorem dX12_menOf_26 : decode cX12_menOf 26 = .ok (.iload_n 1, 1) := by decide +kernel
theorem dX12_menOf_27 : decode cX12_menOf 27 = .ok (.if_icmp .ne 24, 3) := by decide +kernel
theorem dX12_menOf_30 : decode cX12_menOf 30 = .ok (.aload_n 0, 1) := by decide +kernel
theorem dX12_menOf_31 : decode cX12_menOf 31 = .ok (.iload 5, 2) := by decide +kernel
theorem dX12_menOf_33 : decode cX12_menOf 33 = .ok (.iload_n 3, 1) := by decide +kernel
theorem dX12_menOf_34 : decode cX12_menOf 34 = .ok (.invokevirtual 244, 3) := by decide +kernel
theorem dX12_menOf_37 : decode cX12_menOf 37 = .ok (.iload_n 2, 1) := by decide +kernel
theorem dX12_menOf_38 : decode cX12_menOf 38 = .ok (.if_icmp .gt 13, 3) := by decide +kernel
theorem dX12_menOf_41 : decode cX12_menOf 41 = .ok (.aload_n 0, 1) := by decide +kernel
theorem dX12_menOf_42 : decode cX12_menOf 42 = .ok (.iload 5, 2) := by decide +kernel
theorem dX12_menOf_44 : decode cX12_menOf 44 = .ok (.iconst 1, 1) := by decide +kernel
theorem dX12_menOf_45 : decode cX12_menOf 45 = .ok (.invokevirtual 82, 3) := by decide +kernel
theorem dX12_menOf_48 : decode cX12_menOf 48 = .ok (.goto 4, 3) := by decide +kernel
theorem dX12_menOf_51 : decode cX12_menOf 51 = .ok (.iconst 0, 1) := by decide +kernel
theorem dX12_menOf_52 : decode cX12_menOf 52 = .ok (.iadd, 1) := by decide +kernel
theorem dX12_menOf_53 : decode cX12_menOf 53 = .ok (.istore 4, 2) := by decide +kernel
theorem dX12_menOf_55 : decode cX12_menOf 55 = .ok (.iinc 5 1, 3) := by decide +kernel
theorem dX12_menOf_58 : decode cX12_menOf 58 = .ok (.goto (-52), 3) := by decide +kernel
theorem dX12_menOf_61 : decode cX12_menOf 61 = .ok (.iload 4, 2) := by decide +kernel
theorem dX12_menOf_63 : decode cX12_menOf 63 = .ok (.ireturn, 1) := by decide +kernel
theorem dX12_frontOf_0 : decode cX12_frontOf 0 = .ok (.aload_n 0, 1) := by decide +kernel
theorem dX12_frontOf_1 : decode cX12_frontOf 1 = .ok (.getfield 34, 3) := by decide +kernel
theorem dX12_frontOf_4 : decode cX12_frontOf 4 = .ok (.iconst 0, 1) := by decide +kernel
theorem dX12_frontOf_5 : decode cX12_frontOf 5 = .ok (.iconst 0, 1) := by decide +kernel
theorem dX12_frontOf_6 : decode cX12_frontOf 6 = .ok (.iastore, 1) := by decide +kernel
theorem dX12_frontOf_7 : decode cX12_frontOf 7 = .ok (.iconst 0, 1) := by decide +kernel
theorem dX12_frontOf_8 : decode cX12_frontOf 8 = .ok (.istore_n 3, 1) := by decide +kernel
theorem dX12_frontOf_9 : decode cX12_frontOf 9 = .ok (.iload_n 3, 1) := by decide +kernel
theorem dX12_frontOf_10 : decode cX12_frontOf 10 = .ok (.iload_n 1, 1) := by decide +kernel
theorem dX12_frontOf_11 : decode cX12_frontOf 11 = .ok (.if_icmp .ge 72, 3) := by decide +kernel
theorem dX12_frontOf_14 : decode cX12_frontOf 14 = .ok (.aload_n 0, 1) := by decide +kernel
theorem dX12_frontOf_15 : decode cX12_frontOf 15 = .ok (.iload_n 3, 1) := by decide +kernel
theorem dX12_frontOf_16 : decode cX12_frontOf 16 = .ok (.invokevirtual 239, 3) := by decide +kernel
theorem dX12_frontOf_19 : decode cX12_frontOf 19 = .ok (.ifCond .eq 7, 3) := by decide +kernel
theorem dX12_frontOf_22 : decode cX12_frontOf 22 = .ok (.iconst 0, 1) := by decide +kernel
theorem dX12_frontOf_23 : decode cX12_frontOf 23 = .ok (.goto 18, 3) := by decide +kernel
theorem dX12_frontOf_26 : decode cX12_frontOf 26 = .ok (.aload_n 0, 1) := by decide +kernel
theorem dX12_frontOf_27 : decode cX12_frontOf 27 = .ok (.iconst 0, 1) := by decide +kernel
theorem dX12_frontOf_28 : decode cX12_frontOf 28 = .ok (.iload_n 3, 1) := by decide +kernel
theorem dX12_frontOf_29 : decode cX12_frontOf 29 = .ok (.iload_n 2, 1) := by decide +kernel
theorem dX12_frontOf_30 : decode cX12_frontOf 30 = .ok (.invokevirtual 247, 3) := by decide +kernel
theorem dX12_frontOf_33 : decode cX12_frontOf 33 = .ok (.aload_n 0, 1) := by decide +kernel
theorem dX12_frontOf_34 : decode cX12_frontOf 34 = .ok (.iconst 1, 1) := by decide +kernel
theorem dX12_frontOf_35 : decode cX12_frontOf 35 = .ok (.iload_n 3, 1) := by decide +kernel
theorem dX12_frontOf_36 : decode cX12_frontOf 36 = .ok (.iload_n 2, 1) := by decide +kernel
theorem dX12_frontOf_37 : decode cX12_frontOf 37 = .ok (.invokevirtual 247, 3) := by decide +kernel
theorem dX12_frontOf_40 : decode cX12_frontOf 40 = .ok (.isub, 1) := by decide +kernel
theorem dX12_frontOf_41 : decode cX12_frontOf 41 = .ok (.istore 4, 2) := by decide +kernel
theorem dX12_frontOf_43 : decode cX12_frontOf 43 = .ok (.aload_n 0, 1) := by decide +kernel
theorem dX12_frontOf_44 : decode cX12_frontOf 44 = .ok (.getfield 34, 3) := by decide +kernel
theorem dX12_frontOf_47 : decode cX12_frontOf 47 = .ok (.iload_n 3, 1) := by decide +kernel
theorem dX12_frontOf_48 : decode cX12_frontOf 48 = .ok (.iconst 1, 1) := by decide +kernel
theorem dX12_frontOf_49 : decode cX12_frontOf 49 = .ok (.iadd, 1) := by decide +kernel
theorem dX12_frontOf_50 : decode cX12_frontOf 50 = .ok (.aload_n 0, 1) := by decide +kernel
theorem dX12_frontOf_51 : decode cX12_frontOf 51 = .ok (.getfield 34, 3) := by decide +kernel
theorem dX12_frontOf_54 : decode cX12_frontOf 54 = .ok (.iload_n 3, 1) := by decide +kernel
theorem dX12_frontOf_55 : decode cX12_frontOf 55 = .ok (.iaload, 1) := by decide +kernel
theorem dX12_frontOf_56 : decode cX12_frontOf 56 = .ok (.iload 4, 2) := by decide +kernel
theorem dX12_frontOf_58 : decode cX12_frontOf 58 = .ok (.ifCond .le 7, 3) := by decide +kernel
theorem dX12_frontOf_61 : decode cX12_frontOf 61 = .ok (.iconst 1, 1) := by decide +kernel
theorem dX12_frontOf_62 : decode cX12_frontOf 62 = .ok (.goto 13, 3) := by decide +kernel
theorem dX12_frontOf_65 : decode cX12_frontOf 65 = .ok (.iload 4, 2) := by decide +kernel
theorem dX12_frontOf_67 : decode cX12_frontOf 67 = .ok (.ifCond .ge 7, 3) := by decide +kernel
theorem dX12_frontOf_70 : decode cX12_frontOf 70 = .ok (.iconst (-1), 1) := by decide +kernel
theorem dX12_frontOf_71 : decode cX12_frontOf 71 = .ok (.goto 4, 3) := by decide +kernel
theorem dX12_frontOf_74 : decode cX12_frontOf 74 = .ok (.iconst 0, 1) := by decide +kernel
theorem dX12_frontOf_75 : decode cX12_frontOf 75 = .ok (.iadd, 1) := by decide +kernel
theorem dX12_frontOf_76 : decode cX12_frontOf 76 = .ok (.iastore, 1) := by decide +kernel
theorem dX12_frontOf_77 : decode cX12_frontOf 77 = .ok (.iinc 3 1, 3) := by decide +kernel
theorem dX12_frontOf_80 : decode cX12_frontOf 80 = .ok (.goto (-71), 3) := by decide +kernel
theorem dX12_frontOf_83 : decode cX12_frontOf 83 = .ok (.aload_n 0, 1) := by decide +kernel
theorem dX12_frontOf_84 : decode cX12_frontOf 84 = .ok (.getfield 34, 3) := by decide +kernel
theorem dX12_frontOf_87 : decode cX12_frontOf 87 = .ok (.iload_n 1, 1) := by decide +kernel
theorem dX12_frontOf_88 : decode cX12_frontOf 88 = .ok (.iaload, 1) := by decide +kernel
theorem dX12_frontOf_89 : decode cX12_frontOf 89 = .ok (.ireturn, 1) := by decide +kernel
theorem dX12_lastFront_0 : decode cX12_lastFront 0 = .ok (.aload_n 0, 1) := by decide +kernel
theorem dX12_lastFront_1 : decode cX12_lastFront 1 = .ok (.aload_n 0, 1) := by decide +kernel
theorem dX12_lastFront_2 : decode cX12_lastFront 2 = .ok (.getfield 9, 3) := by decide +kernel
theorem dX12_lastFront_5 : decode cX12_lastFront 5 = .ok (.iconst 0, 1) := by decide +kernel
theorem dX12_lastFront_6 : decode cX12_lastFront 6 = .ok (.iaload, 1) := by decide +kernel
theorem dX12_lastFront_7 : decode cX12_lastFront 7 = .ok (.iload_n 1, 1) := by decide +kernel
theorem dX12_lastFront_8 : decode cX12_lastFront 8 = .ok (.invokevirtual 251, 3) := by decide +kernel
theorem dX12_lastFront_11 : decode cX12_lastFront 11 = .ok (.ireturn, 1) := by decide +kernel
theorem dX12_goodBy_0 : decode cX12_goodBy 0 = .ok (.iload_n 0, 1) := by decide +kernel
theorem dX12_goodBy_1 : decode cX12_goodBy 1 = .ok (.ifCond .ne 7, 3) := by decide +kernel
theorem dX12_goodBy_4 : decode cX12_goodBy 4 = .ok (.iload_n 1, 1) := by decide +kernel
theorem dX12_goodBy_5 : decode cX12_goodBy 5 = .ok (.goto 5, 3) := by decide +kernel
theorem dX12_goodBy_8 : decode cX12_goodBy 8 = .ok (.iload_n 1, 1) := by decide +kernel
theorem dX12_goodBy_9 : decode cX12_goodBy 9 = .ok (.ineg, 1) := by decide +kernel
theorem dX12_goodBy_10 : decode cX12_goodBy 10 = .ok (.ireturn, 1) := by decide +kernel
theorem dX12_isLate_0 : decode cX12_isLate 0 = .ok (.aload_n 0, 1) := by decide +kernel
theorem dX12_isLate_1 : decode cX12_isLate 1 = .ok (.iload_n 1, 1) := by decide +kernel
theorem dX12_isLate_2 : decode cX12_isLate 2 = .ok (.aload_n 0, 1) := by decide +kernel
theorem dX12_isLate_3 : decode cX12_isLate 3 = .ok (.getfield 9, 3) := by decide +kernel
theorem dX12_isLate_6 : decode cX12_isLate 6 = .ok (.iconst 1, 1) := by decide +kernel
theorem dX12_isLate_7 : decode cX12_isLate 7 = .ok (.iaload, 1) := by decide +kernel
theorem dX12_isLate_8 : decode cX12_isLate 8 = .ok (.iload_n 2, 1) := by decide +kernel
theorem dX12_isLate_9 : decode cX12_isLate 9 = .ok (.invokevirtual 247, 3) := by decide +kernel
theorem dX12_isLate_12 : decode cX12_isLate 12 = .ok (.aload_n 0, 1) := by decide +kernel
theorem dX12_isLate_13 : decode cX12_isLate 13 = .ok (.getfield 9, 3) := by decide +kernel
theorem dX12_isLate_16 : decode cX12_isLate 16 = .ok (.bipush 11, 2) := by decide +kernel
theorem dX12_isLate_18 : decode cX12_isLate 18 = .ok (.iload_n 1, 1) := by decide +kernel
theorem dX12_isLate_19 : decode cX12_isLate 19 = .ok (.iadd, 1) := by decide +kernel
theorem dX12_isLate_20 : decode cX12_isLate 20 = .ok (.iaload, 1) := by decide +kernel
theorem dX12_isLate_21 : decode cX12_isLate 21 = .ok (.if_icmp .ge 7, 3) := by decide +kernel
theorem dX12_isLate_24 : decode cX12_isLate 24 = .ok (.iconst 1, 1) := by decide +kernel
theorem dX12_isLate_25 : decode cX12_isLate 25 = .ok (.goto 4, 3) := by decide +kernel
theorem dX12_isLate_28 : decode cX12_isLate 28 = .ok (.iconst 0, 1) := by decide +kernel
theorem dX12_isLate_29 : decode cX12_isLate 29 = .ok (.ireturn, 1) := by decide +kernel
theorem dX12_winner_0 : decode cX12_winner 0 = .ok (.aload_n 0, 1) := by decide +kernel
theorem dX12_winner_1 : decode cX12_winner 1 = .ok (.iconst 0, 1) := by decide +kernel
theorem dX12_winner_2 : decode cX12_winner 2 = .ok (.iload_n 1, 1) := by decide +kernel
theorem dX12_winner_3 : decode cX12_winner 3 = .ok (.invokevirtual 254, 3) := by decide +kernel
theorem dX12_winner_6 : decode cX12_winner 6 = .ok (.istore_n 2, 1) := by decide +kernel
theorem dX12_winner_7 : decode cX12_winner 7 = .ok (.aload_n 0, 1) := by decide +kernel
theorem dX12_winner_8 : decode cX12_winner 8 = .ok (.iconst 1, 1) := by decide +kernel
theorem dX12_winner_9 : decode cX12_winner 9 = .ok (.iload_n 1, 1) := by decide +kernel
theorem dX12_winner_10 : decode cX12_winner 10 = .ok (.invokevirtual 254, 3) := by decide +kernel
theorem dX12_winner_13 : decode cX12_winner 13 = .ok (.istore_n 3, 1) := by decide +kernel
theorem dX12_winner_14 : decode cX12_winner 14 = .ok (.iload_n 2, 1) := by decide +kernel
theorem dX12_winner_15 : decode cX12_winner 15 = .ok (.iload_n 3, 1) := by decide +kernel
theorem dX12_winner_16 : decode cX12_winner 16 = .ok (.if_icmp .eq 13, 3) := by decide +kernel
theorem dX12_winner_19 : decode cX12_winner 19 = .ok (.iload_n 2, 1) := by decide +kernel
theorem dX12_winner_20 : decode cX12_winner 20 = .ok (.ifCond .eq 7, 3) := by decide +kernel
theorem dX12_winner_23 : decode cX12_winner 23 = .ok (.iconst 1, 1) := by decide +kernel
theorem dX12_winner_24 : decode cX12_winner 24 = .ok (.goto 4, 3) := by decide +kernel
theorem dX12_winner_27 : decode cX12_winner 27 = .ok (.iconst 0, 1) := by decide +kernel
theorem dX12_winner_28 : decode cX12_winner 28 = .ok (.ireturn, 1) := by decide +kernel
theorem dX12_winner_29 : decode cX12_winner 29 = .ok (.aload_n 0, 1) := by decide +kernel
theorem dX12_winner_30 : decode cX12_winner 30 = .ok (.iload_n 1, 1) := by decide +kernel
theorem dX12_winner_31 : decode cX12_winner 31 = .ok (.invokevirtual 258, 3) := by decide +kernel
theorem dX12_winner_34 : decode cX12_winner 34 = .ok (.istore 4, 2) := by decide +kernel
theorem dX12_winner_36 : decode cX12_winner 36 = .ok (.iload 4, 2) := by decide +kernel
theorem dX12_winner_38 : decode cX12_winner 38 = .ok (.ifCond .le 7, 3) := by decide +kernel
theorem dX12_winner_41 : decode cX12_winner 41 = .ok (.iconst 0, 1) := by decide +kernel
theorem dX12_winner_42 : decode cX12_winner 42 = .ok (.goto 13, 3) := by decide +kernel
theorem dX12_winner_45 : decode cX12_winner 45 = .ok (.iload 4, 2) := by decide +kernel
theorem dX12_winner_47 : decode cX12_winner 47 = .ok (.ifCond .ge 7, 3) := by decide +kernel
theorem dX12_winner_50 : decode cX12_winner 50 = .ok (.iconst 1, 1) := by decide +kernel
theorem dX12_winner_51 : decode cX12_winner 51 = .ok (.goto 4, 3) := by decide +kernel
theorem dX12_winner_54 : decode cX12_winner 54 = .ok (.iconst (-1), 1) := by decide +kernel
theorem dX12_winner_55 : decode cX12_winner 55 = .ok (.ireturn, 1) := by decide +kernel
theorem dX12_isAny_0 : decode cX12_isAny 0 = .ok (.iload_n 0, 1) := by decide +kernel
theorem dX12_isAny_1 : decode cX12_isAny 1 = .ok (.i2l, 1) := by decide +kernel
theorem dX12_isAny_2 : decode cX12_isAny 2 = .ok (.lconst 0, 1) := by decide +kernel
theorem dX12_isAny_3 : decode cX12_isAny 3 = .ok (.ldc2_w 261, 3) := by decide +kernel
theorem dX12_isAny_6 : decode cX12_isAny 6 = .ok (.invokestatic 70, 3) := by decide +kernel
theorem dX12_isAny_9 : decode cX12_isAny 9 = .ok (.ireturn, 1) := by decide +kernel
theorem dX12_men_0 : decode cX12_men 0 = .ok (.aload_n 0, 1) := by decide +kernel
theorem dX12_men_1 : decode cX12_men 1 = .ok (.iload_n 1, 1) := by decide +kernel
theorem dX12_men_2 : decode cX12_men 2 = .ok (.invokevirtual 236, 3) := by decide +kernel
theorem dX12_men_5 : decode cX12_men 5 = .ok (.ifCond .eq 28, 3) := by decide +kernel
theorem dX12_men_8 : decode cX12_men 8 = .ok (.iload_n 2, 1) := by decide +kernel
theorem dX12_men_9 : decode cX12_men 9 = .ok (.invokestatic 263, 3) := by decide +kernel
theorem dX12_men_12 : decode cX12_men 12 = .ok (.ifCond .eq 21, 3) := by decide +kernel
theorem dX12_men_15 : decode cX12_men 15 = .ok (.aload_n 0, 1) := by decide +kernel
theorem dX12_men_16 : decode cX12_men 16 = .ok (.iload_n 3, 1) := by decide +kernel
theorem dX12_men_17 : decode cX12_men 17 = .ok (.invokevirtual 266, 3) := by decide +kernel
theorem dX12_men_20 : decode cX12_men 20 = .ok (.ifCond .eq 13, 3) := by decide +kernel
theorem dX12_men_23 : decode cX12_men 23 = .ok (.aload_n 0, 1) := by decide +kernel
theorem dX12_men_24 : decode cX12_men 24 = .ok (.iload_n 1, 1) := by decide +kernel
theorem dX12_men_25 : decode cX12_men 25 = .ok (.iload_n 2, 1) := by decide +kernel
theorem dX12_men_26 : decode cX12_men 26 = .ok (.iload_n 3, 1) := by decide +kernel
theorem dX12_men_27 : decode cX12_men 27 = .ok (.invokevirtual 247, 3) := by decide +kernel
theorem dX12_men_30 : decode cX12_men 30 = .ok (.goto 5, 3) := by decide +kernel
theorem dX12_men_33 : decode cX12_men 33 = .ok (.bipush (-2), 2) := by decide +kernel
theorem dX12_men_35 : decode cX12_men 35 = .ok (.ireturn, 1) := by decide +kernel
theorem dX12_front_0 : decode cX12_front 0 = .ok (.aload_n 0, 1) := by decide +kernel
theorem dX12_front_1 : decode cX12_front 1 = .ok (.iload_n 2, 1) := by decide +kernel
theorem dX12_front_2 : decode cX12_front 2 = .ok (.invokevirtual 266, 3) := by decide +kernel
theorem dX12_front_5 : decode cX12_front 5 = .ok (.ifCond .eq 28, 3) := by decide +kernel
theorem dX12_front_8 : decode cX12_front 8 = .ok (.iload_n 1, 1) := by decide +kernel
theorem dX12_front_9 : decode cX12_front 9 = .ok (.i2l, 1) := by decide +kernel
theorem dX12_front_10 : decode cX12_front 10 = .ok (.lconst 0, 1) := by decide +kernel
theorem dX12_front_11 : decode cX12_front 11 = .ok (.aload_n 0, 1) := by decide +kernel
theorem dX12_front_12 : decode cX12_front 12 = .ok (.getfield 9, 3) := by decide +kernel
theorem dX12_front_15 : decode cX12_front 15 = .ok (.iconst 0, 1) := by decide +kernel
theorem dX12_front_16 : decode cX12_front 16 = .ok (.iaload, 1) := by decide +kernel
theorem dX12_front_17 : decode cX12_front 17 = .ok (.i2l, 1) := by decide +kernel
theorem dX12_front_18 : decode cX12_front 18 = .ok (.invokestatic 70, 3) := by decide +kernel
theorem dX12_front_21 : decode cX12_front 21 = .ok (.ifCond .eq 12, 3) := by decide +kernel
theorem dX12_front_24 : decode cX12_front 24 = .ok (.aload_n 0, 1) := by decide +kernel
theorem dX12_front_25 : decode cX12_front 25 = .ok (.iload_n 1, 1) := by decide +kernel
theorem dX12_front_26 : decode cX12_front 26 = .ok (.iload_n 2, 1) := by decide +kernel
theorem dX12_front_27 : decode cX12_front 27 = .ok (.invokevirtual 251, 3) := by decide +kernel
theorem dX12_front_30 : decode cX12_front 30 = .ok (.goto 6, 3) := by decide +kernel
theorem dX12_front_33 : decode cX12_front 33 = .ok (.sipush (-1000), 3) := by decide +kernel
theorem dX12_front_36 : decode cX12_front 36 = .ok (.ireturn, 1) := by decide +kernel
theorem dX12_late_0 : decode cX12_late 0 = .ok (.aload_n 0, 1) := by decide +kernel
theorem dX12_late_1 : decode cX12_late 1 = .ok (.iload_n 1, 1) := by decide +kernel
theorem dX12_late_2 : decode cX12_late 2 = .ok (.invokevirtual 266, 3) := by decide +kernel
theorem dX12_late_5 : decode cX12_late 5 = .ok (.ifCond .eq 35, 3) := by decide +kernel
theorem dX12_late_8 : decode cX12_late 8 = .ok (.aload_n 0, 1) := by decide +kernel
theorem dX12_late_9 : decode cX12_late 9 = .ok (.iconst 0, 1) := by decide +kernel
theorem dX12_late_10 : decode cX12_late 10 = .ok (.iload_n 1, 1) := by decide +kernel
theorem dX12_late_11 : decode cX12_late 11 = .ok (.invokevirtual 254, 3) := by decide +kernel
theorem dX12_late_14 : decode cX12_late 14 = .ok (.ifCond .eq 7, 3) := by decide +kernel
theorem dX12_late_17 : decode cX12_late 17 = .ok (.iconst 1, 1) := by decide +kernel
theorem dX12_late_18 : decode cX12_late 18 = .ok (.goto 4, 3) := by decide +kernel
theorem dX12_late_21 : decode cX12_late 21 = .ok (.iconst 0, 1) := by decide +kernel
theorem dX12_late_22 : decode cX12_late 22 = .ok (.aload_n 0, 1) := by decide +kernel
theorem dX12_late_23 : decode cX12_late 23 = .ok (.iconst 1, 1) := by decide +kernel
theorem dX12_late_24 : decode cX12_late 24 = .ok (.iload_n 1, 1) := by decide +kernel
theorem dX12_late_25 : decode cX12_late 25 = .ok (.invokevirtual 254, 3) := by decide +kernel
theorem dX12_late_28 : decode cX12_late 28 = .ok (.ifCond .eq 7, 3) := by decide +kernel
theorem dX12_late_31 : decode cX12_late 31 = .ok (.iconst 2, 1) := by decide +kernel
theorem dX12_late_32 : decode cX12_late 32 = .ok (.goto 4, 3) := by decide +kernel
theorem dX12_late_35 : decode cX12_late 35 = .ok (.iconst 0, 1) := by decide +kernel
theorem dX12_late_36 : decode cX12_late 36 = .ok (.iadd, 1) := by decide +kernel
theorem dX12_late_37 : decode cX12_late 37 = .ok (.goto 5, 3) := by decide +kernel
theorem dX12_late_40 : decode cX12_late 40 = .ok (.bipush (-2), 2) := by decide +kernel
theorem dX12_late_42 : decode cX12_late 42 = .ok (.ireturn, 1) := by decide +kernel
theorem dX12_wins_0 : decode cX12_wins 0 = .ok (.aload_n 0, 1) := by decide +kernel
theorem dX12_wins_1 : decode cX12_wins 1 = .ok (.iload_n 1, 1) := by decide +kernel
theorem dX12_wins_2 : decode cX12_wins 2 = .ok (.invokevirtual 266, 3) := by decide +kernel
theorem dX12_wins_5 : decode cX12_wins 5 = .ok (.ifCond .eq 11, 3) := by decide +kernel
theorem dX12_wins_8 : decode cX12_wins 8 = .ok (.aload_n 0, 1) := by decide +kernel
theorem dX12_wins_9 : decode cX12_wins 9 = .ok (.iload_n 1, 1) := by decide +kernel
theorem dX12_wins_10 : decode cX12_wins 10 = .ok (.invokevirtual 269, 3) := by decide +kernel
theorem dX12_wins_13 : decode cX12_wins 13 = .ok (.goto 5, 3) := by decide +kernel
theorem dX12_wins_16 : decode cX12_wins 16 = .ok (.bipush (-2), 2) := by decide +kernel
theorem dX12_wins_18 : decode cX12_wins 18 = .ok (.ireturn, 1) := by decide +kernel
theorem dX12_peak_0 : decode cX12_peak 0 = .ok (.aload_n 0, 1) := by decide +kernel
theorem dX12_peak_1 : decode cX12_peak 1 = .ok (.iload_n 1, 1) := by decide +kernel
theorem dX12_peak_2 : decode cX12_peak 2 = .ok (.invokevirtual 236, 3) := by decide +kernel
theorem dX12_peak_5 : decode cX12_peak 5 = .ok (.ifCond .eq 11, 3) := by decide +kernel
theorem dX12_peak_8 : decode cX12_peak 8 = .ok (.aload_n 0, 1) := by decide +kernel
theorem dX12_peak_9 : decode cX12_peak 9 = .ok (.iload_n 2, 1) := by decide +kernel
theorem dX12_peak_10 : decode cX12_peak 10 = .ok (.invokevirtual 266, 3) := by decide +kernel
theorem dX12_peak_13 : decode cX12_peak 13 = .ok (.ifCond .ne 6, 3) := by decide +kernel
theorem dX12_peak_16 : decode cX12_peak 16 = .ok (.bipush (-2), 2) := by decide +kernel
theorem dX12_peak_18 : decode cX12_peak 18 = .ok (.ireturn, 1) := by decide +kernel
theorem dX12_peak_19 : decode cX12_peak 19 = .ok (.aload_n 0, 1) := by decide +kernel
theorem dX12_peak_20 : decode cX12_peak 20 = .ok (.iload_n 2, 1) := by decide +kernel
theorem dX12_peak_21 : decode cX12_peak 21 = .ok (.invokevirtual 258, 3) := by decide +kernel
theorem dX12_peak_24 : decode cX12_peak 24 = .ok (.pop, 1) := by decide +kernel
theorem dX12_peak_25 : decode cX12_peak 25 = .ok (.iconst 0, 1) := by decide +kernel
theorem dX12_peak_26 : decode cX12_peak 26 = .ok (.istore_n 3, 1) := by decide +kernel
theorem dX12_peak_27 : decode cX12_peak 27 = .ok (.iconst 1, 1) := by decide +kernel
theorem dX12_peak_28 : decode cX12_peak 28 = .ok (.istore 4, 2) := by decide +kernel
theorem dX12_peak_30 : decode cX12_peak 30 = .ok (.iload 4, 2) := by decide +kernel
theorem dX12_peak_32 : decode cX12_peak 32 = .ok (.aload_n 0, 1) := by decide +kernel
theorem dX12_peak_33 : decode cX12_peak 33 = .ok (.getfield 9, 3) := by decide +kernel
theorem dX12_peak_36 : decode cX12_peak 36 = .ok (.iconst 0, 1) := by decide +kernel
theorem dX12_peak_37 : decode cX12_peak 37 = .ok (.iaload, 1) := by decide +kernel
theorem dX12_peak_38 : decode cX12_peak 38 = .ok (.if_icmp .gt 40, 3) := by decide +kernel
theorem dX12_peak_41 : decode cX12_peak 41 = .ok (.iload_n 1, 1) := by decide +kernel
theorem dX12_peak_42 : decode cX12_peak 42 = .ok (.aload_n 0, 1) := by decide +kernel
theorem dX12_peak_43 : decode cX12_peak 43 = .ok (.getfield 34, 3) := by decide +kernel
theorem dX12_peak_46 : decode cX12_peak 46 = .ok (.iload 4, 2) := by decide +kernel
theorem dX12_peak_48 : decode cX12_peak 48 = .ok (.iaload, 1) := by decide +kernel
theorem dX12_peak_49 : decode cX12_peak 49 = .ok (.invokestatic 272, 3) := by decide +kernel
theorem dX12_peak_52 : decode cX12_peak 52 = .ok (.iload_n 1, 1) := by decide +kernel
theorem dX12_peak_53 : decode cX12_peak 53 = .ok (.aload_n 0, 1) := by decide +kernel
theorem dX12_peak_54 : decode cX12_peak 54 = .ok (.getfield 34, 3) := by decide +kernel
theorem dX12_peak_57 : decode cX12_peak 57 = .ok (.iload_n 3, 1) := by decide +kernel
theorem dX12_peak_58 : decode cX12_peak 58 = .ok (.iaload, 1) := by decide +kernel
theorem dX12_peak_59 : decode cX12_peak 59 = .ok (.invokestatic 272, 3) := by decide +kernel
theorem dX12_peak_62 : decode cX12_peak 62 = .ok (.if_icmp .le 8, 3) := by decide +kernel
theorem dX12_peak_65 : decode cX12_peak 65 = .ok (.iload 4, 2) := by decide +kernel
theorem dX12_peak_67 : decode cX12_peak 67 = .ok (.goto 4, 3) := by decide +kernel
theorem dX12_peak_70 : decode cX12_peak 70 = .ok (.iload_n 3, 1) := by decide +kernel
theorem dX12_peak_71 : decode cX12_peak 71 = .ok (.istore_n 3, 1) := by decide +kernel
theorem dX12_peak_72 : decode cX12_peak 72 = .ok (.iinc 4 1, 3) := by decide +kernel
theorem dX12_peak_75 : decode cX12_peak 75 = .ok (.goto (-45), 3) := by decide +kernel
theorem dX12_peak_78 : decode cX12_peak 78 = .ok (.iload_n 3, 1) := by decide +kernel
theorem dX12_peak_79 : decode cX12_peak 79 = .ok (.ireturn, 1) := by decide +kernel
theorem dX12_swings_0 : decode cX12_swings 0 = .ok (.aload_n 0, 1) := by decide +kernel
theorem dX12_swings_1 : decode cX12_swings 1 = .ok (.iload_n 1, 1) := by decide +kernel
theorem dX12_swings_2 : decode cX12_swings 2 = .ok (.invokevirtual 266, 3) := by decide +kernel
theorem dX12_swings_5 : decode cX12_swings 5 = .ok (.ifCond .ne 6, 3) := by decide +kernel
theorem dX12_swings_8 : decode cX12_swings 8 = .ok (.bipush (-2), 2) := by decide +kernel
theorem dX12_swings_10 : decode cX12_swings 10 = .ok (.ireturn, 1) := by decide +kernel
theorem dX12_swings_11 : decode cX12_swings 11 = .ok (.aload_n 0, 1) := by decide +kernel
theorem dX12_swings_12 : decode cX12_swings 12 = .ok (.iload_n 1, 1) := by decide +kernel
theorem dX12_swings_13 : decode cX12_swings 13 = .ok (.invokevirtual 258, 3) := by decide +kernel
theorem dX12_swings_16 : decode cX12_swings 16 = .ok (.pop, 1) := by decide +kernel
theorem dX12_swings_17 : decode cX12_swings 17 = .ok (.iconst 0, 1) := by decide +kernel
theorem dX12_swings_18 : decode cX12_swings 18 = .ok (.istore_n 2, 1) := by decide +kernel
theorem dX12_swings_19 : decode cX12_swings 19 = .ok (.iconst 0, 1) := by decide +kernel
theorem dX12_swings_20 : decode cX12_swings 20 = .ok (.istore_n 3, 1) := by decide +kernel
theorem dX12_swings_21 : decode cX12_swings 21 = .ok (.iconst 1, 1) := by decide +kernel
theorem dX12_swings_22 : decode cX12_swings 22 = .ok (.istore 4, 2) := by decide +kernel
theorem dX12_swings_24 : decode cX12_swings 24 = .ok (.iload 4, 2) := by decide +kernel
theorem dX12_swings_26 : decode cX12_swings 26 = .ok (.aload_n 0, 1) := by decide +kernel
theorem dX12_swings_27 : decode cX12_swings 27 = .ok (.getfield 9, 3) := by decide +kernel
theorem dX12_swings_30 : decode cX12_swings 30 = .ok (.iconst 0, 1) := by decide +kernel
theorem dX12_swings_31 : decode cX12_swings 31 = .ok (.iaload, 1) := by decide +kernel
theorem dX12_swings_32 : decode cX12_swings 32 = .ok (.if_icmp .gt 69, 3) := by decide +kernel
theorem dX12_swings_35 : decode cX12_swings 35 = .ok (.aload_n 0, 1) := by decide +kernel
theorem dX12_swings_36 : decode cX12_swings 36 = .ok (.getfield 34, 3) := by decide +kernel
theorem dX12_swings_39 : decode cX12_swings 39 = .ok (.iload 4, 2) := by decide +kernel
theorem dX12_swings_41 : decode cX12_swings 41 = .ok (.iaload, 1) := by decide +kernel
theorem dX12_swings_42 : decode cX12_swings 42 = .ok (.ifCond .le 7, 3) := by decide +kernel
theorem dX12_swings_45 : decode cX12_swings 45 = .ok (.iconst 1, 1) := by decide +kernel
theorem dX12_swings_46 : decode cX12_swings 46 = .ok (.goto 18, 3) := by decide +kernel
theorem dX12_swings_49 : decode cX12_swings 49 = .ok (.aload_n 0, 1) := by decide +kernel
theorem dX12_swings_50 : decode cX12_swings 50 = .ok (.getfield 34, 3) := by decide +kernel
theorem dX12_swings_53 : decode cX12_swings 53 = .ok (.iload 4, 2) := by decide +kernel
theorem dX12_swings_55 : decode cX12_swings 55 = .ok (.iaload, 1) := by decide +kernel
theorem dX12_swings_56 : decode cX12_swings 56 = .ok (.ifCond .ge 7, 3) := by decide +kernel
theorem dX12_swings_59 : decode cX12_swings 59 = .ok (.iconst (-1), 1) := by decide +kernel
theorem dX12_swings_60 : decode cX12_swings 60 = .ok (.goto 4, 3) := by decide +kernel
theorem dX12_swings_63 : decode cX12_swings 63 = .ok (.iconst 0, 1) := by decide +kernel
theorem dX12_swings_64 : decode cX12_swings 64 = .ok (.istore 5, 2) := by decide +kernel
theorem dX12_swings_66 : decode cX12_swings 66 = .ok (.iload 5, 2) := by decide +kernel
theorem dX12_swings_68 : decode cX12_swings 68 = .ok (.ifCond .ne 6, 3) := by decide +kernel
theorem dX12_swings_71 : decode cX12_swings 71 = .ok (.goto 24, 3) := by decide +kernel
theorem dX12_swings_74 : decode cX12_swings 74 = .ok (.iload_n 2, 1) := by decide +kernel
theorem dX12_swings_75 : decode cX12_swings 75 = .ok (.iload_n 3, 1) := by decide +kernel
theorem dX12_swings_76 : decode cX12_swings 76 = .ok (.ifCond .eq 13, 3) := by decide +kernel
theorem dX12_swings_79 : decode cX12_swings 79 = .ok (.iload_n 3, 1) := by decide +kernel
theorem dX12_swings_80 : decode cX12_swings 80 = .ok (.iload 5, 2) := by decide +kernel
theorem dX12_swings_82 : decode cX12_swings 82 = .ok (.if_icmp .eq 7, 3) := by decide +kernel
theorem dX12_swings_85 : decode cX12_swings 85 = .ok (.iconst 1, 1) := by decide +kernel
theorem dX12_swings_86 : decode cX12_swings 86 = .ok (.goto 4, 3) := by decide +kernel
theorem dX12_swings_89 : decode cX12_swings 89 = .ok (.iconst 0, 1) := by decide +kernel
theorem dX12_swings_90 : decode cX12_swings 90 = .ok (.iadd, 1) := by decide +kernel
theorem dX12_swings_91 : decode cX12_swings 91 = .ok (.istore_n 2, 1) := by decide +kernel
theorem dX12_swings_92 : decode cX12_swings 92 = .ok (.iload 5, 2) := by decide +kernel
theorem dX12_swings_94 : decode cX12_swings 94 = .ok (.istore_n 3, 1) := by decide +kernel
theorem dX12_swings_95 : decode cX12_swings 95 = .ok (.iinc 4 1, 3) := by decide +kernel
theorem dX12_swings_98 : decode cX12_swings 98 = .ok (.goto (-74), 3) := by decide +kernel
theorem dX12_swings_101 : decode cX12_swings 101 = .ok (.iload_n 2, 1) := by decide +kernel
theorem dX12_swings_102 : decode cX12_swings 102 = .ok (.ireturn, 1) := by decide +kernel
theorem dX12_since_0 : decode cX12_since 0 = .ok (.aload_n 0, 1) := by decide +kernel
theorem dX12_since_1 : decode cX12_since 1 = .ok (.iload_n 1, 1) := by decide +kernel
theorem dX12_since_2 : decode cX12_since 2 = .ok (.invokevirtual 236, 3) := by decide +kernel
theorem dX12_since_5 : decode cX12_since 5 = .ok (.ifCond .eq 11, 3) := by decide +kernel
theorem dX12_since_8 : decode cX12_since 8 = .ok (.aload_n 0, 1) := by decide +kernel
theorem dX12_since_9 : decode cX12_since 9 = .ok (.iload_n 2, 1) := by decide +kernel
theorem dX12_since_10 : decode cX12_since 10 = .ok (.invokevirtual 266, 3) := by decide +kernel
theorem dX12_since_13 : decode cX12_since 13 = .ok (.ifCond .ne 6, 3) := by decide +kernel
theorem dX12_since_16 : decode cX12_since 16 = .ok (.bipush (-2), 2) := by decide +kernel
theorem dX12_since_18 : decode cX12_since 18 = .ok (.ireturn, 1) := by decide +kernel
theorem dX12_since_19 : decode cX12_since 19 = .ok (.iconst 0, 1) := by decide +kernel
theorem dX12_since_20 : decode cX12_since 20 = .ok (.istore_n 3, 1) := by decide +kernel
theorem dX12_since_21 : decode cX12_since 21 = .ok (.iload_n 3, 1) := by decide +kernel
theorem dX12_since_22 : decode cX12_since 22 = .ok (.bipush 100, 2) := by decide +kernel
theorem dX12_since_24 : decode cX12_since 24 = .ok (.if_icmp .ge 30, 3) := by decide +kernel
theorem dX12_since_27 : decode cX12_since 27 = .ok (.aload_n 0, 1) := by decide +kernel
theorem dX12_since_28 : decode cX12_since 28 = .ok (.iload_n 1, 1) := by decide +kernel
theorem dX12_since_29 : decode cX12_since 29 = .ok (.iload_n 3, 1) := by decide +kernel
theorem dX12_since_30 : decode cX12_since 30 = .ok (.iload_n 2, 1) := by decide +kernel
theorem dX12_since_31 : decode cX12_since 31 = .ok (.invokevirtual 247, 3) := by decide +kernel
theorem dX12_since_34 : decode cX12_since 34 = .ok (.aload_n 0, 1) := by decide +kernel
theorem dX12_since_35 : decode cX12_since 35 = .ok (.getfield 9, 3) := by decide +kernel
theorem dX12_since_38 : decode cX12_since 38 = .ok (.bipush 11, 2) := by decide +kernel
theorem dX12_since_40 : decode cX12_since 40 = .ok (.iload_n 1, 1) := by decide +kernel
theorem dX12_since_41 : decode cX12_since 41 = .ok (.iadd, 1) := by decide +kernel
theorem dX12_since_42 : decode cX12_since 42 = .ok (.iaload, 1) := by decide +kernel
theorem dX12_since_43 : decode cX12_since 43 = .ok (.if_icmp .lt 5, 3) := by decide +kernel
theorem dX12_since_46 : decode cX12_since 46 = .ok (.iload_n 3, 1) := by decide +kernel
theorem dX12_since_47 : decode cX12_since 47 = .ok (.ireturn, 1) := by decide +kernel
theorem dX12_since_48 : decode cX12_since 48 = .ok (.iinc 3 1, 3) := by decide +kernel
theorem dX12_since_51 : decode cX12_since 51 = .ok (.goto (-30), 3) := by decide +kernel
theorem dX12_since_54 : decode cX12_since 54 = .ok (.iconst (-1), 1) := by decide +kernel
theorem dX12_since_55 : decode cX12_since 55 = .ok (.ireturn, 1) := by decide +kernel
theorem dX12_comes_0 : decode cX12_comes 0 = .ok (.iload_n 1, 1) := by decide +kernel
theorem dX12_comes_1 : decode cX12_comes 1 = .ok (.invokestatic 263, 3) := by decide +kernel
theorem dX12_comes_4 : decode cX12_comes 4 = .ok (.ifCond .eq 11, 3) := by decide +kernel
theorem dX12_comes_7 : decode cX12_comes 7 = .ok (.aload_n 0, 1) := by decide +kernel
theorem dX12_comes_8 : decode cX12_comes 8 = .ok (.iload_n 2, 1) := by decide +kernel
theorem dX12_comes_9 : decode cX12_comes 9 = .ok (.invokevirtual 266, 3) := by decide +kernel
theorem dX12_comes_12 : decode cX12_comes 12 = .ok (.ifCond .ne 6, 3) := by decide +kernel
theorem dX12_comes_15 : decode cX12_comes 15 = .ok (.bipush (-2), 2) := by decide +kernel
theorem dX12_comes_17 : decode cX12_comes 17 = .ok (.ireturn, 1) := by decide +kernel
theorem dX12_comes_18 : decode cX12_comes 18 = .ok (.iconst 0, 1) := by decide +kernel
theorem dX12_comes_19 : decode cX12_comes 19 = .ok (.istore_n 3, 1) := by decide +kernel
theorem dX12_comes_20 : decode cX12_comes 20 = .ok (.iconst 0, 1) := by decide +kernel
theorem dX12_comes_21 : decode cX12_comes 21 = .ok (.istore 4, 2) := by decide +kernel
theorem dX12_comes_23 : decode cX12_comes 23 = .ok (.iload 4, 2) := by decide +kernel
theorem dX12_comes_25 : decode cX12_comes 25 = .ok (.aload_n 0, 1) := by decide +kernel
theorem dX12_comes_26 : decode cX12_comes 26 = .ok (.getfield 9, 3) := by decide +kernel
theorem dX12_comes_29 : decode cX12_comes 29 = .ok (.iconst 4, 1) := by decide +kernel
theorem dX12_comes_30 : decode cX12_comes 30 = .ok (.iaload, 1) := by decide +kernel
theorem dX12_comes_31 : decode cX12_comes 31 = .ok (.if_icmp .ge 31, 3) := by decide +kernel
theorem dX12_comes_34 : decode cX12_comes 34 = .ok (.iload_n 3, 1) := by decide +kernel
theorem dX12_comes_35 : decode cX12_comes 35 = .ok (.aload_n 0, 1) := by decide +kernel
theorem dX12_comes_36 : decode cX12_comes 36 = .ok (.iload 4, 2) := by decide +kernel
theorem dX12_comes_38 : decode cX12_comes 38 = .ok (.iload_n 2, 1) := by decide +kernel
theorem dX12_comes_39 : decode cX12_comes 39 = .ok (.invokevirtual 244, 3) := by decide +kernel
theorem dX12_comes_42 : decode cX12_comes 42 = .ok (.iload_n 1, 1) := by decide +kernel
theorem dX12_comes_43 : decode cX12_comes 43 = .ok (.if_icmp .ne 10, 3) := by decide +kernel
theorem dX12_comes_46 : decode cX12_comes 46 = .ok (.iconst 1, 1) := by decide +kernel
theorem dX12_comes_47 : decode cX12_comes 47 = .ok (.iload 4, 2) := by decide +kernel
theorem dX12_comes_49 : decode cX12_comes 49 = .ok (.ishl, 1) := by decide +kernel
theorem dX12_comes_50 : decode cX12_comes 50 = .ok (.goto 4, 3) := by decide +kernel
theorem dX12_comes_53 : decode cX12_comes 53 = .ok (.iconst 0, 1) := by decide +kernel
theorem dX12_comes_54 : decode cX12_comes 54 = .ok (.ior, 1) := by decide +kernel
theorem dX12_comes_55 : decode cX12_comes 55 = .ok (.istore_n 3, 1) := by decide +kernel
theorem dX12_comes_56 : decode cX12_comes 56 = .ok (.iinc 4 1, 3) := by decide +kernel
theorem dX12_comes_59 : decode cX12_comes 59 = .ok (.goto (-36), 3) := by decide +kernel
theorem dX12_comes_62 : decode cX12_comes 62 = .ok (.iload_n 3, 1) := by decide +kernel
theorem dX12_comes_63 : decode cX12_comes 63 = .ok (.ireturn, 1) := by decide +kernel
theorem dX12_even_0 : decode cX12_even 0 = .ok (.aload_n 0, 1) := by decide +kernel
theorem dX12_even_1 : decode cX12_even 1 = .ok (.iload_n 1, 1) := by decide +kernel
theorem dX12_even_2 : decode cX12_even 2 = .ok (.invokevirtual 266, 3) := by decide +kernel
theorem dX12_even_5 : decode cX12_even 5 = .ok (.ifCond .ne 7, 3) := by decide +kernel
theorem dX12_even_8 : decode cX12_even 8 = .ok (.ldc2_w 275, 3) := by decide +kernel
theorem dX12_even_11 : decode cX12_even 11 = .ok (.lreturn, 1) := by decide +kernel
theorem dX12_even_12 : decode cX12_even 12 = .ok (.lconst 0, 1) := by decide +kernel
theorem dX12_even_13 : decode cX12_even 13 = .ok (.lstore_n 2, 1) := by decide +kernel
theorem dX12_even_14 : decode cX12_even 14 = .ok (.iconst 0, 1) := by decide +kernel
theorem dX12_even_15 : decode cX12_even 15 = .ok (.istore 4, 2) := by decide +kernel
theorem dX12_even_17 : decode cX12_even 17 = .ok (.iload 4, 2) := by decide +kernel
theorem dX12_even_19 : decode cX12_even 19 = .ok (.aload_n 0, 1) := by decide +kernel
theorem dX12_even_20 : decode cX12_even 20 = .ok (.getfield 9, 3) := by decide +kernel
theorem dX12_even_23 : decode cX12_even 23 = .ok (.iconst 0, 1) := by decide +kernel
theorem dX12_even_24 : decode cX12_even 24 = .ok (.iaload, 1) := by decide +kernel
theorem dX12_even_25 : decode cX12_even 25 = .ok (.if_icmp .ge 39, 3) := by decide +kernel
theorem dX12_even_28 : decode cX12_even 28 = .ok (.lload_n 2, 1) := by decide +kernel
theorem dX12_even_29 : decode cX12_even 29 = .ok (.aload_n 0, 1) := by decide +kernel
theorem dX12_even_30 : decode cX12_even 30 = .ok (.iconst 0, 1) := by decide +kernel
theorem dX12_even_31 : decode cX12_even 31 = .ok (.iload 4, 2) := by decide +kernel
theorem dX12_even_33 : decode cX12_even 33 = .ok (.iload_n 1, 1) := by decide +kernel
theorem dX12_even_34 : decode cX12_even 34 = .ok (.invokevirtual 247, 3) := by decide +kernel
theorem dX12_even_37 : decode cX12_even 37 = .ok (.aload_n 0, 1) := by decide +kernel
theorem dX12_even_38 : decode cX12_even 38 = .ok (.iconst 1, 1) := by decide +kernel
theorem dX12_even_39 : decode cX12_even 39 = .ok (.iload 4, 2) := by decide +kernel
theorem dX12_even_41 : decode cX12_even 41 = .ok (.iload_n 1, 1) := by decide +kernel
theorem dX12_even_42 : decode cX12_even 42 = .ok (.invokevirtual 247, 3) := by decide +kernel
theorem dX12_even_45 : decode cX12_even 45 = .ok (.if_icmp .ne 10, 3) := by decide +kernel
theorem dX12_even_48 : decode cX12_even 48 = .ok (.lconst 1, 1) := by decide +kernel
theorem dX12_even_49 : decode cX12_even 49 = .ok (.iload 4, 2) := by decide +kernel
theorem dX12_even_51 : decode cX12_even 51 = .ok (.lshl, 1) := by decide +kernel
theorem dX12_even_52 : decode cX12_even 52 = .ok (.goto 4, 3) := by decide +kernel
theorem dX12_even_55 : decode cX12_even 55 = .ok (.lconst 0, 1) := by decide +kernel
theorem dX12_even_56 : decode cX12_even 56 = .ok (.lor, 1) := by decide +kernel
theorem dX12_even_57 : decode cX12_even 57 = .ok (.lstore_n 2, 1) := by decide +kernel
theorem dX12_even_58 : decode cX12_even 58 = .ok (.iinc 4 1, 3) := by decide +kernel
theorem dX12_even_61 : decode cX12_even 61 = .ok (.goto (-44), 3) := by decide +kernel
theorem dX12_even_64 : decode cX12_even 64 = .ok (.lload_n 2, 1) := by decide +kernel
theorem dX12_even_65 : decode cX12_even 65 = .ok (.lreturn, 1) := by decide +kernel
theorem dX12_worstOf_0 : decode cX12_worstOf 0 = .ok (.aload_n 0, 1) := by decide +kernel
theorem dX12_worstOf_1 : decode cX12_worstOf 1 = .ok (.iconst 0, 1) := by decide +kernel
theorem dX12_worstOf_2 : decode cX12_worstOf 2 = .ok (.putfield 277, 3) := by decide +kernel
theorem dX12_worstOf_5 : decode cX12_worstOf 5 = .ok (.ldc_w 280, 3) := by decide +kernel
theorem dX12_worstOf_8 : decode cX12_worstOf 8 = .ok (.istore_n 2, 1) := by decide +kernel
theorem dX12_worstOf_9 : decode cX12_worstOf 9 = .ok (.iconst 0, 1) := by decide +kernel
theorem dX12_worstOf_10 : decode cX12_worstOf 10 = .ok (.istore_n 3, 1) := by decide +kernel
theorem dX12_worstOf_11 : decode cX12_worstOf 11 = .ok (.iload_n 3, 1) := by decide +kernel
theorem dX12_worstOf_12 : decode cX12_worstOf 12 = .ok (.aload_n 0, 1) := by decide +kernel
theorem dX12_worstOf_13 : decode cX12_worstOf 13 = .ok (.invokevirtual 78, 3) := by decide +kernel
theorem dX12_worstOf_16 : decode cX12_worstOf 16 = .ok (.if_icmp .gt 57, 3) := by decide +kernel
theorem dX12_worstOf_19 : decode cX12_worstOf 19 = .ok (.iload_n 1, 1) := by decide +kernel
theorem dX12_worstOf_20 : decode cX12_worstOf 20 = .ok (.aload_n 0, 1) := by decide +kernel
theorem dX12_worstOf_21 : decode cX12_worstOf 21 = .ok (.iload_n 3, 1) := by decide +kernel
theorem dX12_worstOf_22 : decode cX12_worstOf 22 = .ok (.invokevirtual 258, 3) := by decide +kernel
theorem dX12_worstOf_25 : decode cX12_worstOf 25 = .ok (.invokestatic 272, 3) := by decide +kernel
theorem dX12_worstOf_28 : decode cX12_worstOf 28 = .ok (.istore 4, 2) := by decide +kernel
theorem dX12_worstOf_30 : decode cX12_worstOf 30 = .ok (.iload 4, 2) := by decide +kernel
theorem dX12_worstOf_32 : decode cX12_worstOf 32 = .ok (.iload_n 2, 1) := by decide +kernel
theorem dX12_worstOf_33 : decode cX12_worstOf 33 = .ok (.if_icmp .gt 34, 3) := by decide +kernel
theorem dX12_worstOf_36 : decode cX12_worstOf 36 = .ok (.iload 4, 2) := by decide +kernel
theorem dX12_worstOf_38 : decode cX12_worstOf 38 = .ok (.iload_n 2, 1) := by decide +kernel
theorem dX12_worstOf_39 : decode cX12_worstOf 39 = .ok (.if_icmp .ne 20, 3) := by decide +kernel
theorem dX12_worstOf_42 : decode cX12_worstOf 42 = .ok (.iload_n 3, 1) := by decide +kernel
theorem dX12_worstOf_43 : decode cX12_worstOf 43 = .ok (.invokestatic 281, 3) := by decide +kernel
theorem dX12_worstOf_46 : decode cX12_worstOf 46 = .ok (.aload_n 0, 1) := by decide +kernel
theorem dX12_worstOf_47 : decode cX12_worstOf 47 = .ok (.getfield 277, 3) := by decide +kernel
theorem dX12_worstOf_50 : decode cX12_worstOf 50 = .ok (.invokestatic 281, 3) := by decide +kernel
theorem dX12_worstOf_53 : decode cX12_worstOf 53 = .ok (.if_icmp .lt 6, 3) := by decide +kernel
theorem dX12_worstOf_56 : decode cX12_worstOf 56 = .ok (.goto 11, 3) := by decide +kernel
theorem dX12_worstOf_59 : decode cX12_worstOf 59 = .ok (.iload 4, 2) := by decide +kernel
theorem dX12_worstOf_61 : decode cX12_worstOf 61 = .ok (.istore_n 2, 1) := by decide +kernel
theorem dX12_worstOf_62 : decode cX12_worstOf 62 = .ok (.aload_n 0, 1) := by decide +kernel
theorem dX12_worstOf_63 : decode cX12_worstOf 63 = .ok (.iload_n 3, 1) := by decide +kernel
theorem dX12_worstOf_64 : decode cX12_worstOf 64 = .ok (.putfield 277, 3) := by decide +kernel
theorem dX12_worstOf_67 : decode cX12_worstOf 67 = .ok (.iinc 3 1, 3) := by decide +kernel
theorem dX12_worstOf_70 : decode cX12_worstOf 70 = .ok (.goto (-59), 3) := by decide +kernel
theorem dX12_worstOf_73 : decode cX12_worstOf 73 = .ok (.iload_n 2, 1) := by decide +kernel
theorem dX12_worstOf_74 : decode cX12_worstOf 74 = .ok (.ireturn, 1) := by decide +kernel
theorem dX12_worst_0 : decode cX12_worst 0 = .ok (.aload_n 0, 1) := by decide +kernel
theorem dX12_worst_1 : decode cX12_worst 1 = .ok (.iload_n 1, 1) := by decide +kernel
theorem dX12_worst_2 : decode cX12_worst 2 = .ok (.invokevirtual 236, 3) := by decide +kernel
theorem dX12_worst_5 : decode cX12_worst 5 = .ok (.ifCond .eq 11, 3) := by decide +kernel
theorem dX12_worst_8 : decode cX12_worst 8 = .ok (.aload_n 0, 1) := by decide +kernel
theorem dX12_worst_9 : decode cX12_worst 9 = .ok (.iload_n 1, 1) := by decide +kernel
theorem dX12_worst_10 : decode cX12_worst 10 = .ok (.invokevirtual 284, 3) := by decide +kernel
theorem dX12_worst_13 : decode cX12_worst 13 = .ok (.goto 6, 3) := by decide +kernel
theorem dX12_worst_16 : decode cX12_worst 16 = .ok (.sipush (-1000), 3) := by decide +kernel
theorem dX12_worst_19 : decode cX12_worst 19 = .ok (.ireturn, 1) := by decide +kernel
theorem dX12_by_0 : decode cX12_by 0 = .ok (.aload_n 0, 1) := by decide +kernel
theorem dX12_by_1 : decode cX12_by 1 = .ok (.iload_n 1, 1) := by decide +kernel
theorem dX12_by_2 : decode cX12_by 2 = .ok (.invokevirtual 236, 3) := by decide +kernel
theorem dX12_by_5 : decode cX12_by 5 = .ok (.ifCond .ne 6, 3) := by decide +kernel
theorem dX12_by_8 : decode cX12_by 8 = .ok (.bipush (-2), 2) := by decide +kernel
theorem dX12_by_10 : decode cX12_by 10 = .ok (.ireturn, 1) := by decide +kernel
theorem dX12_by_11 : decode cX12_by 11 = .ok (.aload_n 0, 1) := by decide +kernel
theorem dX12_by_12 : decode cX12_by 12 = .ok (.iload_n 1, 1) := by decide +kernel
theorem dX12_by_13 : decode cX12_by 13 = .ok (.invokevirtual 284, 3) := by decide +kernel
theorem dX12_by_16 : decode cX12_by 16 = .ok (.pop, 1) := by decide +kernel
theorem dX12_by_17 : decode cX12_by 17 = .ok (.aload_n 0, 1) := by decide +kernel
theorem dX12_by_18 : decode cX12_by 18 = .ok (.getfield 277, 3) := by decide +kernel
theorem dX12_by_21 : decode cX12_by 21 = .ok (.ireturn, 1) := by decide +kernel
theorem dX12_ways_0 : decode cX12_ways 0 = .ok (.aload_n 0, 1) := by decide +kernel
theorem dX12_ways_1 : decode cX12_ways 1 = .ok (.iload_n 1, 1) := by decide +kernel
theorem dX12_ways_2 : decode cX12_ways 2 = .ok (.invokevirtual 236, 3) := by decide +kernel
theorem dX12_ways_5 : decode cX12_ways 5 = .ok (.ifCond .ne 6, 3) := by decide +kernel
theorem dX12_ways_8 : decode cX12_ways 8 = .ok (.bipush (-2), 2) := by decide +kernel
theorem dX12_ways_10 : decode cX12_ways 10 = .ok (.ireturn, 1) := by decide +kernel
theorem dX12_ways_11 : decode cX12_ways 11 = .ok (.iconst 0, 1) := by decide +kernel
theorem dX12_ways_12 : decode cX12_ways 12 = .ok (.istore_n 2, 1) := by decide +kernel
theorem dX12_ways_13 : decode cX12_ways 13 = .ok (.iconst 0, 1) := by decide +kernel
theorem dX12_ways_14 : decode cX12_ways 14 = .ok (.istore_n 3, 1) := by decide +kernel
theorem dX12_ways_15 : decode cX12_ways 15 = .ok (.iload_n 3, 1) := by decide +kernel
theorem dX12_ways_16 : decode cX12_ways 16 = .ok (.aload_n 0, 1) := by decide +kernel
theorem dX12_ways_17 : decode cX12_ways 17 = .ok (.invokevirtual 78, 3) := by decide +kernel
theorem dX12_ways_20 : decode cX12_ways 20 = .ok (.if_icmp .gt 26, 3) := by decide +kernel
theorem dX12_ways_23 : decode cX12_ways 23 = .ok (.iload_n 2, 1) := by decide +kernel
theorem dX12_ways_24 : decode cX12_ways 24 = .ok (.aload_n 0, 1) := by decide +kernel
theorem dX12_ways_25 : decode cX12_ways 25 = .ok (.iload_n 3, 1) := by decide +kernel
theorem dX12_ways_26 : decode cX12_ways 26 = .ok (.invokevirtual 269, 3) := by decide +kernel
theorem dX12_ways_29 : decode cX12_ways 29 = .ok (.iload_n 1, 1) := by decide +kernel
theorem dX12_ways_30 : decode cX12_ways 30 = .ok (.if_icmp .ne 7, 3) := by decide +kernel
theorem dX12_ways_33 : decode cX12_ways 33 = .ok (.iconst 1, 1) := by decide +kernel
theorem dX12_ways_34 : decode cX12_ways 34 = .ok (.goto 4, 3) := by decide +kernel
theorem dX12_ways_37 : decode cX12_ways 37 = .ok (.iconst 0, 1) := by decide +kernel
theorem dX12_ways_38 : decode cX12_ways 38 = .ok (.iadd, 1) := by decide +kernel
theorem dX12_ways_39 : decode cX12_ways 39 = .ok (.istore_n 2, 1) := by decide +kernel
theorem dX12_ways_40 : decode cX12_ways 40 = .ok (.iinc 3 1, 3) := by decide +kernel
theorem dX12_ways_43 : decode cX12_ways 43 = .ok (.goto (-28), 3) := by decide +kernel
theorem dX12_ways_46 : decode cX12_ways 46 = .ok (.iload_n 2, 1) := by decide +kernel
theorem dX12_ways_47 : decode cX12_ways 47 = .ok (.ireturn, 1) := by decide +kernel
theorem dX12_idle_0 : decode cX12_idle 0 = .ok (.aload_n 0, 1) := by decide +kernel
theorem dX12_idle_1 : decode cX12_idle 1 = .ok (.invokevirtual 74, 3) := by decide +kernel
theorem dX12_idle_4 : decode cX12_idle 4 = .ok (.ifCond .ne 6, 3) := by decide +kernel
theorem dX12_idle_7 : decode cX12_idle 7 = .ok (.bipush (-2), 2) := by decide +kernel
theorem dX12_idle_9 : decode cX12_idle 9 = .ok (.ireturn, 1) := by decide +kernel
theorem dX12_idle_10 : decode cX12_idle 10 = .ok (.aload_n 0, 1) := by decide +kernel
theorem dX12_idle_11 : decode cX12_idle 11 = .ok (.invokevirtual 78, 3) := by decide +kernel
theorem dX12_idle_14 : decode cX12_idle 14 = .ok (.istore_n 1, 1) := by decide +kernel
theorem dX12_idle_15 : decode cX12_idle 15 = .ok (.iconst 0, 1) := by decide +kernel
theorem dX12_idle_16 : decode cX12_idle 16 = .ok (.istore_n 2, 1) := by decide +kernel
theorem dX12_idle_17 : decode cX12_idle 17 = .ok (.iload_n 2, 1) := by decide +kernel
theorem dX12_idle_18 : decode cX12_idle 18 = .ok (.aload_n 0, 1) := by decide +kernel
theorem dX12_idle_19 : decode cX12_idle 19 = .ok (.invokevirtual 78, 3) := by decide +kernel
theorem dX12_idle_22 : decode cX12_idle 22 = .ok (.if_icmp .gt 20, 3) := by decide +kernel
theorem dX12_idle_25 : decode cX12_idle 25 = .ok (.aload_n 0, 1) := by decide +kernel
theorem dX12_idle_26 : decode cX12_idle 26 = .ok (.getfield 37, 3) := by decide +kernel
theorem dX12_idle_29 : decode cX12_idle 29 = .ok (.iload_n 2, 1) := by decide +kernel
theorem dX12_idle_30 : decode cX12_idle 30 = .ok (.aload_n 0, 1) := by decide +kernel
theorem dX12_idle_31 : decode cX12_idle 31 = .ok (.iload_n 2, 1) := by decide +kernel
theorem dX12_idle_32 : decode cX12_idle 32 = .ok (.invokevirtual 269, 3) := by decide +kernel
theorem dX12_idle_35 : decode cX12_idle 35 = .ok (.iastore, 1) := by decide +kernel
theorem dX12_idle_36 : decode cX12_idle 36 = .ok (.iinc 2 1, 3) := by decide +kernel
theorem dX12_idle_39 : decode cX12_idle 39 = .ok (.goto (-22), 3) := by decide +kernel
theorem dX12_idle_42 : decode cX12_idle 42 = .ok (.iconst 0, 1) := by decide +kernel
theorem dX12_idle_43 : decode cX12_idle 43 = .ok (.istore_n 2, 1) := by decide +kernel
theorem dX12_idle_44 : decode cX12_idle 44 = .ok (.iload_n 2, 1) := by decide +kernel
theorem dX12_idle_45 : decode cX12_idle 45 = .ok (.aload_n 0, 1) := by decide +kernel
theorem dX12_idle_46 : decode cX12_idle 46 = .ok (.invokevirtual 78, 3) := by decide +kernel
theorem dX12_idle_49 : decode cX12_idle 49 = .ok (.if_icmp .gt 54, 3) := by decide +kernel
theorem dX12_idle_52 : decode cX12_idle 52 = .ok (.iconst 0, 1) := by decide +kernel
theorem dX12_idle_53 : decode cX12_idle 53 = .ok (.istore_n 3, 1) := by decide +kernel
theorem dX12_idle_54 : decode cX12_idle 54 = .ok (.iload_n 3, 1) := by decide +kernel
theorem dX12_idle_55 : decode cX12_idle 55 = .ok (.aload_n 0, 1) := by decide +kernel
theorem dX12_idle_56 : decode cX12_idle 56 = .ok (.getfield 9, 3) := by decide +kernel
theorem dX12_idle_59 : decode cX12_idle 59 = .ok (.iconst 4, 1) := by decide +kernel
theorem dX12_idle_60 : decode cX12_idle 60 = .ok (.iaload, 1) := by decide +kernel
theorem dX12_idle_61 : decode cX12_idle 61 = .ok (.if_icmp .ge 36, 3) := by decide +kernel
theorem dX12_idle_64 : decode cX12_idle 64 = .ok (.aload_n 0, 1) := by decide +kernel
theorem dX12_idle_65 : decode cX12_idle 65 = .ok (.getfield 37, 3) := by decide +kernel
theorem dX12_idle_68 : decode cX12_idle 68 = .ok (.iload_n 2, 1) := by decide +kernel
theorem dX12_idle_69 : decode cX12_idle 69 = .ok (.iaload, 1) := by decide +kernel
theorem dX12_idle_70 : decode cX12_idle 70 = .ok (.aload_n 0, 1) := by decide +kernel
theorem dX12_idle_71 : decode cX12_idle 71 = .ok (.getfield 37, 3) := by decide +kernel
theorem dX12_idle_74 : decode cX12_idle 74 = .ok (.iload_n 2, 1) := by decide +kernel
theorem dX12_idle_75 : decode cX12_idle 75 = .ok (.iconst 1, 1) := by decide +kernel
theorem dX12_idle_76 : decode cX12_idle 76 = .ok (.iload_n 3, 1) := by decide +kernel
theorem dX12_idle_77 : decode cX12_idle 77 = .ok (.ishl, 1) := by decide +kernel
theorem dX12_idle_78 : decode cX12_idle 78 = .ok (.ixor, 1) := by decide +kernel
theorem dX12_idle_79 : decode cX12_idle 79 = .ok (.iaload, 1) := by decide +kernel
theorem dX12_idle_80 : decode cX12_idle 80 = .ok (.if_icmp .eq 11, 3) := by decide +kernel
theorem dX12_idle_83 : decode cX12_idle 83 = .ok (.iload_n 1, 1) := by decide +kernel
theorem dX12_idle_84 : decode cX12_idle 84 = .ok (.iconst 1, 1) := by decide +kernel
theorem dX12_idle_85 : decode cX12_idle 85 = .ok (.iload_n 3, 1) := by decide +kernel
theorem dX12_idle_86 : decode cX12_idle 86 = .ok (.ishl, 1) := by decide +kernel
theorem dX12_idle_87 : decode cX12_idle 87 = .ok (.iconst (-1), 1) := by decide +kernel
theorem dX12_idle_88 : decode cX12_idle 88 = .ok (.ixor, 1) := by decide +kernel
theorem dX12_idle_89 : decode cX12_idle 89 = .ok (.iand, 1) := by decide +kernel
theorem dX12_idle_90 : decode cX12_idle 90 = .ok (.istore_n 1, 1) := by decide +kernel
theorem dX12_idle_91 : decode cX12_idle 91 = .ok (.iinc 3 1, 3) := by decide +kernel
theorem dX12_idle_94 : decode cX12_idle 94 = .ok (.goto (-40), 3) := by decide +kernel
theorem dX12_idle_97 : decode cX12_idle 97 = .ok (.iinc 2 1, 3) := by decide +kernel
theorem dX12_idle_100 : decode cX12_idle 100 = .ok (.goto (-56), 3) := by decide +kernel
theorem dX12_idle_103 : decode cX12_idle 103 = .ok (.iload_n 1, 1) := by decide +kernel
theorem dX12_idle_104 : decode cX12_idle 104 = .ok (.ireturn, 1) := by decide +kernel
theorem dX12_divisor_0 : decode cX12_divisor 0 = .ok (.lload_n 0, 1) := by decide +kernel
theorem dX12_divisor_1 : decode cX12_divisor 1 = .ok (.lstore 4, 2) := by decide +kernel
theorem dX12_divisor_3 : decode cX12_divisor 3 = .ok (.lload_n 2, 1) := by decide +kernel
theorem dX12_divisor_4 : decode cX12_divisor 4 = .ok (.lstore 6, 2) := by decide +kernel
theorem dX12_divisor_6 : decode cX12_divisor 6 = .ok (.lload 6, 2) := by decide +kernel
theorem dX12_divisor_8 : decode cX12_divisor 8 = .ok (.lconst 0, 1) := by decide +kernel
theorem dX12_divisor_9 : decode cX12_divisor 9 = .ok (.lcmp, 1) := by decide +kernel
theorem dX12_divisor_10 : decode cX12_divisor 10 = .ok (.ifCond .eq 21, 3) := by decide +kernel
theorem dX12_divisor_13 : decode cX12_divisor 13 = .ok (.lload 4, 2) := by decide +kernel
theorem dX12_divisor_15 : decode cX12_divisor 15 = .ok (.lload 6, 2) := by decide +kernel
theorem dX12_divisor_17 : decode cX12_divisor 17 = .ok (.lrem, 1) := by decide +kernel
theorem dX12_divisor_18 : decode cX12_divisor 18 = .ok (.lstore 8, 2) := by decide +kernel
theorem dX12_divisor_20 : decode cX12_divisor 20 = .ok (.lload 6, 2) := by decide +kernel
theorem dX12_divisor_22 : decode cX12_divisor 22 = .ok (.lstore 4, 2) := by decide +kernel
theorem dX12_divisor_24 : decode cX12_divisor 24 = .ok (.lload 8, 2) := by decide +kernel
theorem dX12_divisor_26 : decode cX12_divisor 26 = .ok (.lstore 6, 2) := by decide +kernel
theorem dX12_divisor_28 : decode cX12_divisor 28 = .ok (.goto (-22), 3) := by decide +kernel
theorem dX12_divisor_31 : decode cX12_divisor 31 = .ok (.lload 4, 2) := by decide +kernel
theorem dX12_divisor_33 : decode cX12_divisor 33 = .ok (.lreturn, 1) := by decide +kernel
theorem dX12_part_0 : decode cX12_part 0 = .ok (.iload 4, 2) := by decide +kernel
theorem dX12_part_2 : decode cX12_part 2 = .ok (.ifCond .ne 7, 3) := by decide +kernel
theorem dX12_part_5 : decode cX12_part 5 = .ok (.lload_n 0, 1) := by decide +kernel
theorem dX12_part_6 : decode cX12_part 6 = .ok (.goto 4, 3) := by decide +kernel
theorem dX12_part_9 : decode cX12_part 9 = .ok (.lload_n 2, 1) := by decide +kernel
theorem dX12_part_10 : decode cX12_part 10 = .ok (.lload_n 0, 1) := by decide +kernel
theorem dX12_part_11 : decode cX12_part 11 = .ok (.lload_n 2, 1) := by decide +kernel
theorem dX12_part_12 : decode cX12_part 12 = .ok (.invokestatic 287, 3) := by decide +kernel
theorem dX12_part_15 : decode cX12_part 15 = .ok (.ldiv, 1) := by decide +kernel
theorem dX12_part_16 : decode cX12_part 16 = .ok (.lreturn, 1) := by decide +kernel
theorem dX12_oftenOf_0 : decode cX12_oftenOf 0 = .ok (.lconst 1, 1) := by decide +kernel
theorem dX12_oftenOf_1 : decode cX12_oftenOf 1 = .ok (.lstore_n 2, 1) := by decide +kernel
theorem dX12_oftenOf_2 : decode cX12_oftenOf 2 = .ok (.iconst 0, 1) := by decide +kernel
theorem dX12_oftenOf_3 : decode cX12_oftenOf 3 = .ok (.istore 4, 2) := by decide +kernel
theorem dX12_oftenOf_5 : decode cX12_oftenOf 5 = .ok (.iload 4, 2) := by decide +kernel
theorem dX12_oftenOf_7 : decode cX12_oftenOf 7 = .ok (.aload_n 0, 1) := by decide +kernel
theorem dX12_oftenOf_8 : decode cX12_oftenOf 8 = .ok (.getfield 9, 3) := by decide +kernel
theorem dX12_oftenOf_11 : decode cX12_oftenOf 11 = .ok (.iconst 4, 1) := by decide +kernel
theorem dX12_oftenOf_12 : decode cX12_oftenOf 12 = .ok (.iaload, 1) := by decide +kernel
theorem dX12_oftenOf_13 : decode cX12_oftenOf 13 = .ok (.if_icmp .ge 44, 3) := by decide +kernel
theorem dX12_oftenOf_16 : decode cX12_oftenOf 16 = .ok (.lload_n 2, 1) := by decide +kernel
theorem dX12_oftenOf_17 : decode cX12_oftenOf 17 = .ok (.iload_n 1, 1) := by decide +kernel
theorem dX12_oftenOf_18 : decode cX12_oftenOf 18 = .ok (.iload 4, 2) := by decide +kernel
theorem dX12_oftenOf_20 : decode cX12_oftenOf 20 = .ok (.invokestatic 86, 3) := by decide +kernel
theorem dX12_oftenOf_23 : decode cX12_oftenOf 23 = .ok (.iconst 1, 1) := by decide +kernel
theorem dX12_oftenOf_24 : decode cX12_oftenOf 24 = .ok (.if_icmp .ne 14, 3) := by decide +kernel
theorem dX12_oftenOf_27 : decode cX12_oftenOf 27 = .ok (.aload_n 0, 1) := by decide +kernel
theorem dX12_oftenOf_28 : decode cX12_oftenOf 28 = .ok (.iload 4, 2) := by decide +kernel
theorem dX12_oftenOf_30 : decode cX12_oftenOf 30 = .ok (.iconst 3, 1) := by decide +kernel
theorem dX12_oftenOf_31 : decode cX12_oftenOf 31 = .ok (.invokevirtual 82, 3) := by decide +kernel
theorem dX12_oftenOf_34 : decode cX12_oftenOf 34 = .ok (.i2l, 1) := by decide +kernel
theorem dX12_oftenOf_35 : decode cX12_oftenOf 35 = .ok (.goto 14, 3) := by decide +kernel
theorem dX12_oftenOf_38 : decode cX12_oftenOf 38 = .ok (.bipush 100, 2) := by decide +kernel
theorem dX12_oftenOf_40 : decode cX12_oftenOf 40 = .ok (.aload_n 0, 1) := by decide +kernel
theorem dX12_oftenOf_41 : decode cX12_oftenOf 41 = .ok (.iload 4, 2) := by decide +kernel
theorem dX12_oftenOf_43 : decode cX12_oftenOf 43 = .ok (.iconst 3, 1) := by decide +kernel
theorem dX12_oftenOf_44 : decode cX12_oftenOf 44 = .ok (.invokevirtual 82, 3) := by decide +kernel
theorem dX12_oftenOf_47 : decode cX12_oftenOf 47 = .ok (.isub, 1) := by decide +kernel
theorem dX12_oftenOf_48 : decode cX12_oftenOf 48 = .ok (.i2l, 1) := by decide +kernel
theorem dX12_oftenOf_49 : decode cX12_oftenOf 49 = .ok (.lmul, 1) := by decide +kernel
theorem dX12_oftenOf_50 : decode cX12_oftenOf 50 = .ok (.lstore_n 2, 1) := by decide +kernel
theorem dX12_oftenOf_51 : decode cX12_oftenOf 51 = .ok (.iinc 4 1, 3) := by decide +kernel
theorem dX12_oftenOf_54 : decode cX12_oftenOf 54 = .ok (.goto (-49), 3) := by decide +kernel
theorem dX12_oftenOf_57 : decode cX12_oftenOf 57 = .ok (.lload_n 2, 1) := by decide +kernel
theorem dX12_oftenOf_58 : decode cX12_oftenOf 58 = .ok (.lreturn, 1) := by decide +kernel
theorem dX12_allOften_0 : decode cX12_allOften 0 = .ok (.lconst 1, 1) := by decide +kernel
theorem dX12_allOften_1 : decode cX12_allOften 1 = .ok (.lstore_n 1, 1) := by decide +kernel
theorem dX12_allOften_2 : decode cX12_allOften 2 = .ok (.iconst 0, 1) := by decide +kernel
theorem dX12_allOften_3 : decode cX12_allOften 3 = .ok (.istore_n 3, 1) := by decide +kernel
theorem dX12_allOften_4 : decode cX12_allOften 4 = .ok (.iload_n 3, 1) := by decide +kernel
theorem dX12_allOften_5 : decode cX12_allOften 5 = .ok (.aload_n 0, 1) := by decide +kernel
theorem dX12_allOften_6 : decode cX12_allOften 6 = .ok (.getfield 9, 3) := by decide +kernel
theorem dX12_allOften_9 : decode cX12_allOften 9 = .ok (.iconst 4, 1) := by decide +kernel
theorem dX12_allOften_10 : decode cX12_allOften 10 = .ok (.iaload, 1) := by decide +kernel
theorem dX12_allOften_11 : decode cX12_allOften 11 = .ok (.if_icmp .ge 15, 3) := by decide +kernel
theorem dX12_allOften_14 : decode cX12_allOften 14 = .ok (.lload_n 1, 1) := by decide +kernel
theorem dX12_allOften_15 : decode cX12_allOften 15 = .ok (.ldc2_w 291, 3) := by decide +kernel
theorem dX12_allOften_18 : decode cX12_allOften 18 = .ok (.lmul, 1) := by decide +kernel
theorem dX12_allOften_19 : decode cX12_allOften 19 = .ok (.lstore_n 1, 1) := by decide +kernel
theorem dX12_allOften_20 : decode cX12_allOften 20 = .ok (.iinc 3 1, 3) := by decide +kernel
theorem dX12_allOften_23 : decode cX12_allOften 23 = .ok (.goto (-19), 3) := by decide +kernel
theorem dX12_allOften_26 : decode cX12_allOften 26 = .ok (.lload_n 1, 1) := by decide +kernel
theorem dX12_allOften_27 : decode cX12_allOften 27 = .ok (.lreturn, 1) := by decide +kernel
theorem dX12_enough_0 : decode cX12_enough 0 = .ok (.aload_n 0, 1) := by decide +kernel
theorem dX12_enough_1 : decode cX12_enough 1 = .ok (.iload_n 1, 1) := by decide +kernel
theorem dX12_enough_2 : decode cX12_enough 2 = .ok (.invokevirtual 236, 3) := by decide +kernel
theorem dX12_enough_5 : decode cX12_enough 5 = .ok (.ifCond .eq 13, 3) := by decide +kernel
theorem dX12_enough_8 : decode cX12_enough 8 = .ok (.iload_n 2, 1) := by decide +kernel
theorem dX12_enough_9 : decode cX12_enough 9 = .ok (.i2l, 1) := by decide +kernel
theorem dX12_enough_10 : decode cX12_enough 10 = .ok (.lconst 0, 1) := by decide +kernel
theorem dX12_enough_11 : decode cX12_enough 11 = .ok (.lconst 1, 1) := by decide +kernel
theorem dX12_enough_12 : decode cX12_enough 12 = .ok (.invokestatic 70, 3) := by decide +kernel
theorem dX12_enough_15 : decode cX12_enough 15 = .ok (.ifCond .ne 7, 3) := by decide +kernel
theorem dX12_enough_18 : decode cX12_enough 18 = .ok (.ldc2_w 275, 3) := by decide +kernel
theorem dX12_enough_21 : decode cX12_enough 21 = .ok (.lreturn, 1) := by decide +kernel
theorem dX12_enough_22 : decode cX12_enough 22 = .ok (.lconst 0, 1) := by decide +kernel
theorem dX12_enough_23 : decode cX12_enough 23 = .ok (.lstore_n 3, 1) := by decide +kernel
theorem dX12_enough_24 : decode cX12_enough 24 = .ok (.iconst 0, 1) := by decide +kernel
theorem dX12_enough_25 : decode cX12_enough 25 = .ok (.istore 5, 2) := by decide +kernel
theorem dX12_enough_27 : decode cX12_enough 27 = .ok (.iload 5, 2) := by decide +kernel
theorem dX12_enough_29 : decode cX12_enough 29 = .ok (.aload_n 0, 1) := by decide +kernel
theorem dX12_enough_30 : decode cX12_enough 30 = .ok (.invokevirtual 78, 3) := by decide +kernel
theorem dX12_enough_33 : decode cX12_enough 33 = .ok (.if_icmp .gt 32, 3) := by decide +kernel
theorem dX12_enough_36 : decode cX12_enough 36 = .ok (.lload_n 3, 1) := by decide +kernel
theorem dX12_enough_37 : decode cX12_enough 37 = .ok (.aload_n 0, 1) := by decide +kernel
theorem dX12_enough_38 : decode cX12_enough 38 = .ok (.iload_n 1, 1) := by decide +kernel
theorem dX12_enough_39 : decode cX12_enough 39 = .ok (.iload 5, 2) := by decide +kernel
theorem dX12_enough_41 : decode cX12_enough 41 = .ok (.invokevirtual 254, 3) := by decide +kernel
theorem dX12_enough_44 : decode cX12_enough 44 = .ok (.ifCond .eq 7, 3) := by decide +kernel
theorem dX12_enough_47 : decode cX12_enough 47 = .ok (.lconst 0, 1) := by decide +kernel
theorem dX12_enough_48 : decode cX12_enough 48 = .ok (.goto 9, 3) := by decide +kernel
theorem dX12_enough_51 : decode cX12_enough 51 = .ok (.aload_n 0, 1) := by decide +kernel
theorem dX12_enough_52 : decode cX12_enough 52 = .ok (.iload 5, 2) := by decide +kernel
theorem dX12_enough_54 : decode cX12_enough 54 = .ok (.invokevirtual 293, 3) := by decide +kernel
theorem dX12_enough_57 : decode cX12_enough 57 = .ok (.ladd, 1) := by decide +kernel
theorem dX12_enough_58 : decode cX12_enough 58 = .ok (.lstore_n 3, 1) := by decide +kernel
theorem dX12_enough_59 : decode cX12_enough 59 = .ok (.iinc 5 1, 3) := by decide +kernel
theorem dX12_enough_62 : decode cX12_enough 62 = .ok (.goto (-35), 3) := by decide +kernel
theorem dX12_enough_65 : decode cX12_enough 65 = .ok (.lload_n 3, 1) := by decide +kernel
theorem dX12_enough_66 : decode cX12_enough 66 = .ok (.aload_n 0, 1) := by decide +kernel
theorem dX12_enough_67 : decode cX12_enough 67 = .ok (.invokevirtual 297, 3) := by decide +kernel
theorem dX12_enough_70 : decode cX12_enough 70 = .ok (.iload_n 2, 1) := by decide +kernel
theorem dX12_enough_71 : decode cX12_enough 71 = .ok (.invokestatic 301, 3) := by decide +kernel
theorem dX12_enough_74 : decode cX12_enough 74 = .ok (.lreturn, 1) := by decide +kernel
theorem dX12_chance_0 : decode cX12_chance 0 = .ok (.aload_n 0, 1) := by decide +kernel
theorem dX12_chance_1 : decode cX12_chance 1 = .ok (.iload_n 1, 1) := by decide +kernel
theorem dX12_chance_2 : decode cX12_chance 2 = .ok (.invokevirtual 236, 3) := by decide +kernel
theorem dX12_chance_5 : decode cX12_chance 5 = .ok (.ifCond .eq 13, 3) := by decide +kernel
theorem dX12_chance_8 : decode cX12_chance 8 = .ok (.iload_n 2, 1) := by decide +kernel
theorem dX12_chance_9 : decode cX12_chance 9 = .ok (.i2l, 1) := by decide +kernel
theorem dX12_chance_10 : decode cX12_chance 10 = .ok (.lconst 0, 1) := by decide +kernel
theorem dX12_chance_11 : decode cX12_chance 11 = .ok (.lconst 1, 1) := by decide +kernel
theorem dX12_chance_12 : decode cX12_chance 12 = .ok (.invokestatic 70, 3) := by decide +kernel
theorem dX12_chance_15 : decode cX12_chance 15 = .ok (.ifCond .ne 7, 3) := by decide +kernel
theorem dX12_chance_18 : decode cX12_chance 18 = .ok (.ldc2_w 275, 3) := by decide +kernel
theorem dX12_chance_21 : decode cX12_chance 21 = .ok (.lreturn, 1) := by decide +kernel
theorem dX12_chance_22 : decode cX12_chance 22 = .ok (.lconst 0, 1) := by decide +kernel
theorem dX12_chance_23 : decode cX12_chance 23 = .ok (.lstore_n 3, 1) := by decide +kernel
theorem dX12_chance_24 : decode cX12_chance 24 = .ok (.iconst 0, 1) := by decide +kernel
theorem dX12_chance_25 : decode cX12_chance 25 = .ok (.istore 5, 2) := by decide +kernel
theorem dX12_chance_27 : decode cX12_chance 27 = .ok (.iload 5, 2) := by decide +kernel
theorem dX12_chance_29 : decode cX12_chance 29 = .ok (.aload_n 0, 1) := by decide +kernel
theorem dX12_chance_30 : decode cX12_chance 30 = .ok (.invokevirtual 78, 3) := by decide +kernel
theorem dX12_chance_33 : decode cX12_chance 33 = .ok (.if_icmp .gt 32, 3) := by decide +kernel
theorem dX12_chance_36 : decode cX12_chance 36 = .ok (.lload_n 3, 1) := by decide +kernel
theorem dX12_chance_37 : decode cX12_chance 37 = .ok (.aload_n 0, 1) := by decide +kernel
theorem dX12_chance_38 : decode cX12_chance 38 = .ok (.iload 5, 2) := by decide +kernel
theorem dX12_chance_40 : decode cX12_chance 40 = .ok (.invokevirtual 269, 3) := by decide +kernel
theorem dX12_chance_43 : decode cX12_chance 43 = .ok (.iload_n 1, 1) := by decide +kernel
theorem dX12_chance_44 : decode cX12_chance 44 = .ok (.if_icmp .ne 12, 3) := by decide +kernel
theorem dX12_chance_47 : decode cX12_chance 47 = .ok (.aload_n 0, 1) := by decide +kernel
theorem dX12_chance_48 : decode cX12_chance 48 = .ok (.iload 5, 2) := by decide +kernel
theorem dX12_chance_50 : decode cX12_chance 50 = .ok (.invokevirtual 293, 3) := by decide +kernel
theorem dX12_chance_53 : decode cX12_chance 53 = .ok (.goto 4, 3) := by decide +kernel
theorem dX12_chance_56 : decode cX12_chance 56 = .ok (.lconst 0, 1) := by decide +kernel
theorem dX12_chance_57 : decode cX12_chance 57 = .ok (.ladd, 1) := by decide +kernel
theorem dX12_chance_58 : decode cX12_chance 58 = .ok (.lstore_n 3, 1) := by decide +kernel
theorem dX12_chance_59 : decode cX12_chance 59 = .ok (.iinc 5 1, 3) := by decide +kernel
theorem dX12_chance_62 : decode cX12_chance 62 = .ok (.goto (-35), 3) := by decide +kernel
theorem dX12_chance_65 : decode cX12_chance 65 = .ok (.lload_n 3, 1) := by decide +kernel
theorem dX12_chance_66 : decode cX12_chance 66 = .ok (.aload_n 0, 1) := by decide +kernel
theorem dX12_chance_67 : decode cX12_chance 67 = .ok (.invokevirtual 297, 3) := by decide +kernel
theorem dX12_chance_70 : decode cX12_chance 70 = .ok (.iload_n 2, 1) := by decide +kernel
theorem dX12_chance_71 : decode cX12_chance 71 = .ok (.invokestatic 301, 3) := by decide +kernel
theorem dX12_chance_74 : decode cX12_chance 74 = .ok (.lreturn, 1) := by decide +kernel
theorem dX12_menSent_0 : decode cX12_menSent 0 = .ok (.iconst 0, 1) := by decide +kernel
theorem dX12_menSent_1 : decode cX12_menSent 1 = .ok (.istore_n 3, 1) := by decide +kernel
theorem dX12_menSent_2 : decode cX12_menSent 2 = .ok (.iconst 0, 1) := by decide +kernel
theorem dX12_menSent_3 : decode cX12_menSent 3 = .ok (.istore 4, 2) := by decide +kernel
theorem dX12_menSent_5 : decode cX12_menSent 5 = .ok (.iload 4, 2) := by decide +kernel
theorem dX12_menSent_7 : decode cX12_menSent 7 = .ok (.aload_n 0, 1) := by decide +kernel
theorem dX12_menSent_8 : decode cX12_menSent 8 = .ok (.getfield 9, 3) := by decide +kernel
theorem dX12_menSent_11 : decode cX12_menSent 11 = .ok (.iconst 4, 1) := by decide +kernel
theorem dX12_menSent_12 : decode cX12_menSent 12 = .ok (.iaload, 1) := by decide +kernel
theorem dX12_menSent_13 : decode cX12_menSent 13 = .ok (.if_icmp .ge 49, 3) := by decide +kernel
theorem dX12_menSent_16 : decode cX12_menSent 16 = .ok (.iload_n 3, 1) := by decide +kernel
theorem dX12_menSent_17 : decode cX12_menSent 17 = .ok (.iload_n 1, 1) := by decide +kernel
theorem dX12_menSent_18 : decode cX12_menSent 18 = .ok (.iload 4, 2) := by decide +kernel
theorem dX12_menSent_20 : decode cX12_menSent 20 = .ok (.invokestatic 86, 3) := by decide +kernel
theorem dX12_menSent_23 : decode cX12_menSent 23 = .ok (.iconst 1, 1) := by decide +kernel
theorem dX12_menSent_24 : decode cX12_menSent 24 = .ok (.if_icmp .ne 29, 3) := by decide +kernel
theorem dX12_menSent_27 : decode cX12_menSent 27 = .ok (.aload_n 0, 1) := by decide +kernel
theorem dX12_menSent_28 : decode cX12_menSent 28 = .ok (.iload 4, 2) := by decide +kernel
theorem dX12_menSent_30 : decode cX12_menSent 30 = .ok (.iload_n 2, 1) := by decide +kernel
theorem dX12_menSent_31 : decode cX12_menSent 31 = .ok (.invokevirtual 244, 3) := by decide +kernel
theorem dX12_menSent_34 : decode cX12_menSent 34 = .ok (.aload_n 0, 1) := by decide +kernel
theorem dX12_menSent_35 : decode cX12_menSent 35 = .ok (.getfield 9, 3) := by decide +kernel
theorem dX12_menSent_38 : decode cX12_menSent 38 = .ok (.iconst 1, 1) := by decide +kernel
theorem dX12_menSent_39 : decode cX12_menSent 39 = .ok (.iaload, 1) := by decide +kernel
theorem dX12_menSent_40 : decode cX12_menSent 40 = .ok (.if_icmp .gt 13, 3) := by decide +kernel
theorem dX12_menSent_43 : decode cX12_menSent 43 = .ok (.aload_n 0, 1) := by decide +kernel
theorem dX12_menSent_44 : decode cX12_menSent 44 = .ok (.iload 4, 2) := by decide +kernel
theorem dX12_menSent_46 : decode cX12_menSent 46 = .ok (.iconst 1, 1) := by decide +kernel
theorem dX12_menSent_47 : decode cX12_menSent 47 = .ok (.invokevirtual 82, 3) := by decide +kernel
theorem dX12_menSent_50 : decode cX12_menSent 50 = .ok (.goto 4, 3) := by decide +kernel
theorem dX12_menSent_53 : decode cX12_menSent 53 = .ok (.iconst 0, 1) := by decide +kernel
theorem dX12_menSent_54 : decode cX12_menSent 54 = .ok (.iadd, 1) := by decide +kernel
theorem dX12_menSent_55 : decode cX12_menSent 55 = .ok (.istore_n 3, 1) := by decide +kernel
theorem dX12_menSent_56 : decode cX12_menSent 56 = .ok (.iinc 4 1, 3) := by decide +kernel
theorem dX12_menSent_59 : decode cX12_menSent 59 = .ok (.goto (-54), 3) := by decide +kernel
theorem dX12_menSent_62 : decode cX12_menSent 62 = .ok (.iload_n 3, 1) := by decide +kernel
theorem dX12_menSent_63 : decode cX12_menSent 63 = .ok (.ireturn, 1) := by decide +kernel
theorem dX12_isSurely_0 : decode cX12_isSurely 0 = .ok (.aload_n 0, 1) := by decide +kernel
theorem dX12_isSurely_1 : decode cX12_isSurely 1 = .ok (.iload_n 2, 1) := by decide +kernel
theorem dX12_isSurely_2 : decode cX12_isSurely 2 = .ok (.aload_n 0, 1) := by decide +kernel
theorem dX12_isSurely_3 : decode cX12_isSurely 3 = .ok (.invokevirtual 78, 3) := by decide +kernel
theorem dX12_isSurely_6 : decode cX12_isSurely 6 = .ok (.invokevirtual 305, 3) := by decide +kernel
theorem dX12_isSurely_9 : decode cX12_isSurely 9 = .ok (.aload_n 0, 1) := by decide +kernel
theorem dX12_isSurely_10 : decode cX12_isSurely 10 = .ok (.getfield 9, 3) := by decide +kernel
theorem dX12_isSurely_13 : decode cX12_isSurely 13 = .ok (.bipush 11, 2) := by decide +kernel
theorem dX12_isSurely_15 : decode cX12_isSurely 15 = .ok (.iload_n 1, 1) := by decide +kernel
theorem dX12_isSurely_16 : decode cX12_isSurely 16 = .ok (.iadd, 1) := by decide +kernel
theorem dX12_isSurely_17 : decode cX12_isSurely 17 = .ok (.iaload, 1) := by decide +kernel
theorem dX12_isSurely_18 : decode cX12_isSurely 18 = .ok (.if_icmp .lt 7, 3) := by decide +kernel
theorem dX12_isSurely_21 : decode cX12_isSurely 21 = .ok (.iconst 1, 1) := by decide +kernel
theorem dX12_isSurely_22 : decode cX12_isSurely 22 = .ok (.goto 4, 3) := by decide +kernel
theorem dX12_isSurely_25 : decode cX12_isSurely 25 = .ok (.iconst 0, 1) := by decide +kernel
theorem dX12_isSurely_26 : decode cX12_isSurely 26 = .ok (.ireturn, 1) := by decide +kernel
theorem dX12_take_0 : decode cX12_take 0 = .ok (.aload_n 0, 1) := by decide +kernel
theorem dX12_take_1 : decode cX12_take 1 = .ok (.getfield 308, 3) := by decide +kernel
theorem dX12_take_4 : decode cX12_take 4 = .ok (.iconst (-1), 1) := by decide +kernel
theorem dX12_take_5 : decode cX12_take 5 = .ok (.if_icmp .eq 12, 3) := by decide +kernel
theorem dX12_take_8 : decode cX12_take 8 = .ok (.iload_n 1, 1) := by decide +kernel
theorem dX12_take_9 : decode cX12_take 9 = .ok (.aload_n 0, 1) := by decide +kernel
theorem dX12_take_10 : decode cX12_take 10 = .ok (.getfield 311, 3) := by decide +kernel
theorem dX12_take_13 : decode cX12_take 13 = .ok (.if_icmp .lt 4, 3) := by decide +kernel
theorem dX12_take_16 : decode cX12_take 16 = .ok (.return_, 1) := by decide +kernel
theorem dX12_take_17 : decode cX12_take 17 = .ok (.aload_n 0, 1) := by decide +kernel
theorem dX12_take_18 : decode cX12_take 18 = .ok (.iload_n 1, 1) := by decide +kernel
theorem dX12_take_19 : decode cX12_take 19 = .ok (.putfield 311, 3) := by decide +kernel
theorem dX12_take_22 : decode cX12_take 22 = .ok (.aload_n 0, 1) := by decide +kernel
theorem dX12_take_23 : decode cX12_take 23 = .ok (.iload_n 2, 1) := by decide +kernel
theorem dX12_take_24 : decode cX12_take 24 = .ok (.putfield 308, 3) := by decide +kernel
theorem dX12_take_27 : decode cX12_take 27 = .ok (.return_, 1) := by decide +kernel
theorem dX12_orNone_0 : decode cX12_orNone 0 = .ok (.aload_n 0, 1) := by decide +kernel
theorem dX12_orNone_1 : decode cX12_orNone 1 = .ok (.getfield 308, 3) := by decide +kernel
theorem dX12_orNone_4 : decode cX12_orNone 4 = .ok (.iconst (-1), 1) := by decide +kernel
theorem dX12_orNone_5 : decode cX12_orNone 5 = .ok (.if_icmp .ne 7, 3) := by decide +kernel
theorem dX12_orNone_8 : decode cX12_orNone 8 = .ok (.iconst (-1), 1) := by decide +kernel
theorem dX12_orNone_9 : decode cX12_orNone 9 = .ok (.goto 7, 3) := by decide +kernel
theorem dX12_orNone_12 : decode cX12_orNone 12 = .ok (.aload_n 0, 1) := by decide +kernel
theorem dX12_orNone_13 : decode cX12_orNone 13 = .ok (.getfield 311, 3) := by decide +kernel
theorem dX12_orNone_16 : decode cX12_orNone 16 = .ok (.ireturn, 1) := by decide +kernel
theorem dX12_findSend_0 : decode cX12_findSend 0 = .ok (.aload_n 0, 1) := by decide +kernel
theorem dX12_findSend_1 : decode cX12_findSend 1 = .ok (.iconst (-1), 1) := by decide +kernel
theorem dX12_findSend_2 : decode cX12_findSend 2 = .ok (.putfield 308, 3) := by decide +kernel
theorem dX12_findSend_5 : decode cX12_findSend 5 = .ok (.aload_n 0, 1) := by decide +kernel
theorem dX12_findSend_6 : decode cX12_findSend 6 = .ok (.iload_n 1, 1) := by decide +kernel
theorem dX12_findSend_7 : decode cX12_findSend 7 = .ok (.invokevirtual 314, 3) := by decide +kernel
theorem dX12_findSend_10 : decode cX12_findSend 10 = .ok (.istore_n 3, 1) := by decide +kernel
theorem dX12_findSend_11 : decode cX12_findSend 11 = .ok (.iconst 0, 1) := by decide +kernel
theorem dX12_findSend_12 : decode cX12_findSend 12 = .ok (.istore 4, 2) := by decide +kernel
theorem dX12_findSend_14 : decode cX12_findSend 14 = .ok (.iload 4, 2) := by decide +kernel
theorem dX12_findSend_16 : decode cX12_findSend 16 = .ok (.iload_n 3, 1) := by decide +kernel
theorem dX12_findSend_17 : decode cX12_findSend 17 = .ok (.if_icmp .gt 52, 3) := by decide +kernel
theorem dX12_findSend_20 : decode cX12_findSend 20 = .ok (.iload 4, 2) := by decide +kernel
theorem dX12_findSend_22 : decode cX12_findSend 22 = .ok (.iload_n 3, 1) := by decide +kernel
theorem dX12_findSend_23 : decode cX12_findSend 23 = .ok (.iconst (-1), 1) := by decide +kernel
theorem dX12_findSend_24 : decode cX12_findSend 24 = .ok (.ixor, 1) := by decide +kernel
theorem dX12_findSend_25 : decode cX12_findSend 25 = .ok (.iand, 1) := by decide +kernel
theorem dX12_findSend_26 : decode cX12_findSend 26 = .ok (.ifCond .ne 37, 3) := by decide +kernel
theorem dX12_findSend_29 : decode cX12_findSend 29 = .ok (.aload_n 0, 1) := by decide +kernel
theorem dX12_findSend_30 : decode cX12_findSend 30 = .ok (.iload_n 1, 1) := by decide +kernel
theorem dX12_findSend_31 : decode cX12_findSend 31 = .ok (.iload 4, 2) := by decide +kernel
theorem dX12_findSend_33 : decode cX12_findSend 33 = .ok (.invokevirtual 317, 3) := by decide +kernel
theorem dX12_findSend_36 : decode cX12_findSend 36 = .ok (.ifCond .eq 27, 3) := by decide +kernel
theorem dX12_findSend_39 : decode cX12_findSend 39 = .ok (.aload_n 0, 1) := by decide +kernel
theorem dX12_findSend_40 : decode cX12_findSend 40 = .ok (.iload_n 2, 1) := by decide +kernel
theorem dX12_findSend_41 : decode cX12_findSend 41 = .ok (.ifCond .eq 12, 3) := by decide +kernel
theorem dX12_findSend_44 : decode cX12_findSend 44 = .ok (.aload_n 0, 1) := by decide +kernel
theorem dX12_findSend_45 : decode cX12_findSend 45 = .ok (.iload 4, 2) := by decide +kernel
theorem dX12_findSend_47 : decode cX12_findSend 47 = .ok (.invokevirtual 320, 3) := by decide +kernel
theorem dX12_findSend_50 : decode cX12_findSend 50 = .ok (.goto 8, 3) := by decide +kernel
theorem dX12_findSend_53 : decode cX12_findSend 53 = .ok (.iload 4, 2) := by decide +kernel
theorem dX12_findSend_55 : decode cX12_findSend 55 = .ok (.invokestatic 281, 3) := by decide +kernel
theorem dX12_findSend_58 : decode cX12_findSend 58 = .ok (.iload 4, 2) := by decide +kernel
theorem dX12_findSend_60 : decode cX12_findSend 60 = .ok (.invokevirtual 323, 3) := by decide +kernel
theorem dX12_findSend_63 : decode cX12_findSend 63 = .ok (.iinc 4 1, 3) := by decide +kernel
theorem dX12_findSend_66 : decode cX12_findSend 66 = .ok (.goto (-52), 3) := by decide +kernel
theorem dX12_findSend_69 : decode cX12_findSend 69 = .ok (.return_, 1) := by decide +kernel
theorem dX12_send_0 : decode cX12_send 0 = .ok (.aload_n 0, 1) := by decide +kernel
theorem dX12_send_1 : decode cX12_send 1 = .ok (.iload_n 1, 1) := by decide +kernel
theorem dX12_send_2 : decode cX12_send 2 = .ok (.invokevirtual 236, 3) := by decide +kernel
theorem dX12_send_5 : decode cX12_send 5 = .ok (.ifCond .ne 6, 3) := by decide +kernel
theorem dX12_send_8 : decode cX12_send 8 = .ok (.bipush (-2), 2) := by decide +kernel
theorem dX12_send_10 : decode cX12_send 10 = .ok (.ireturn, 1) := by decide +kernel
theorem dX12_send_11 : decode cX12_send 11 = .ok (.aload_n 0, 1) := by decide +kernel
theorem dX12_send_12 : decode cX12_send 12 = .ok (.iload_n 1, 1) := by decide +kernel
theorem dX12_send_13 : decode cX12_send 13 = .ok (.iconst 1, 1) := by decide +kernel
theorem dX12_send_14 : decode cX12_send 14 = .ok (.invokevirtual 327, 3) := by decide +kernel
theorem dX12_send_17 : decode cX12_send 17 = .ok (.aload_n 0, 1) := by decide +kernel
theorem dX12_send_18 : decode cX12_send 18 = .ok (.invokevirtual 331, 3) := by decide +kernel
theorem dX12_send_21 : decode cX12_send 21 = .ok (.ireturn, 1) := by decide +kernel
theorem dX12_sent_0 : decode cX12_sent 0 = .ok (.aload_n 0, 1) := by decide +kernel
theorem dX12_sent_1 : decode cX12_sent 1 = .ok (.iload_n 1, 1) := by decide +kernel
theorem dX12_sent_2 : decode cX12_sent 2 = .ok (.invokevirtual 236, 3) := by decide +kernel
theorem dX12_sent_5 : decode cX12_sent 5 = .ok (.ifCond .ne 6, 3) := by decide +kernel
theorem dX12_sent_8 : decode cX12_sent 8 = .ok (.bipush (-2), 2) := by decide +kernel
theorem dX12_sent_10 : decode cX12_sent 10 = .ok (.ireturn, 1) := by decide +kernel
theorem dX12_sent_11 : decode cX12_sent 11 = .ok (.aload_n 0, 1) := by decide +kernel
theorem dX12_sent_12 : decode cX12_sent 12 = .ok (.iload_n 1, 1) := by decide +kernel
theorem dX12_sent_13 : decode cX12_sent 13 = .ok (.iconst 1, 1) := by decide +kernel
theorem dX12_sent_14 : decode cX12_sent 14 = .ok (.invokevirtual 327, 3) := by decide +kernel
theorem dX12_sent_17 : decode cX12_sent 17 = .ok (.aload_n 0, 1) := by decide +kernel
theorem dX12_sent_18 : decode cX12_sent 18 = .ok (.getfield 308, 3) := by decide +kernel
theorem dX12_sent_21 : decode cX12_sent 21 = .ok (.ireturn, 1) := by decide +kernel
theorem dX12_fewest_0 : decode cX12_fewest 0 = .ok (.aload_n 0, 1) := by decide +kernel
theorem dX12_fewest_1 : decode cX12_fewest 1 = .ok (.iload_n 1, 1) := by decide +kernel
theorem dX12_fewest_2 : decode cX12_fewest 2 = .ok (.invokevirtual 236, 3) := by decide +kernel
theorem dX12_fewest_5 : decode cX12_fewest 5 = .ok (.ifCond .ne 6, 3) := by decide +kernel
theorem dX12_fewest_8 : decode cX12_fewest 8 = .ok (.bipush (-2), 2) := by decide +kernel
theorem dX12_fewest_10 : decode cX12_fewest 10 = .ok (.ireturn, 1) := by decide +kernel
theorem dX12_fewest_11 : decode cX12_fewest 11 = .ok (.aload_n 0, 1) := by decide +kernel
theorem dX12_fewest_12 : decode cX12_fewest 12 = .ok (.iload_n 1, 1) := by decide +kernel
theorem dX12_fewest_13 : decode cX12_fewest 13 = .ok (.iconst 0, 1) := by decide +kernel
theorem dX12_fewest_14 : decode cX12_fewest 14 = .ok (.invokevirtual 327, 3) := by decide +kernel
theorem dX12_fewest_17 : decode cX12_fewest 17 = .ok (.aload_n 0, 1) := by decide +kernel
theorem dX12_fewest_18 : decode cX12_fewest 18 = .ok (.invokevirtual 331, 3) := by decide +kernel
theorem dX12_fewest_21 : decode cX12_fewest 21 = .ok (.ireturn, 1) := by decide +kernel
theorem dX12_enoughBy_0 : decode cX12_enoughBy 0 = .ok (.lconst 0, 1) := by decide +kernel
theorem dX12_enoughBy_1 : decode cX12_enoughBy 1 = .ok (.lstore_n 3, 1) := by decide +kernel
theorem dX12_enoughBy_2 : decode cX12_enoughBy 2 = .ok (.iconst 0, 1) := by decide +kernel
theorem dX12_enoughBy_3 : decode cX12_enoughBy 3 = .ok (.istore 5, 2) := by decide +kernel
theorem dX12_enoughBy_5 : decode cX12_enoughBy 5 = .ok (.iload 5, 2) := by decide +kernel
theorem dX12_enoughBy_7 : decode cX12_enoughBy 7 = .ok (.aload_n 0, 1) := by decide +kernel
theorem dX12_enoughBy_8 : decode cX12_enoughBy 8 = .ok (.invokevirtual 78, 3) := by decide +kernel
theorem dX12_enoughBy_11 : decode cX12_enoughBy 11 = .ok (.if_icmp .gt 41, 3) := by decide +kernel
theorem dX12_enoughBy_14 : decode cX12_enoughBy 14 = .ok (.lload_n 3, 1) := by decide +kernel
theorem dX12_enoughBy_15 : decode cX12_enoughBy 15 = .ok (.aload_n 0, 1) := by decide +kernel
theorem dX12_enoughBy_16 : decode cX12_enoughBy 16 = .ok (.iload_n 2, 1) := by decide +kernel
theorem dX12_enoughBy_17 : decode cX12_enoughBy 17 = .ok (.iload 5, 2) := by decide +kernel
theorem dX12_enoughBy_19 : decode cX12_enoughBy 19 = .ok (.invokevirtual 305, 3) := by decide +kernel
theorem dX12_enoughBy_22 : decode cX12_enoughBy 22 = .ok (.aload_n 0, 1) := by decide +kernel
theorem dX12_enoughBy_23 : decode cX12_enoughBy 23 = .ok (.getfield 9, 3) := by decide +kernel
theorem dX12_enoughBy_26 : decode cX12_enoughBy 26 = .ok (.bipush 11, 2) := by decide +kernel
theorem dX12_enoughBy_28 : decode cX12_enoughBy 28 = .ok (.iload_n 1, 1) := by decide +kernel
theorem dX12_enoughBy_29 : decode cX12_enoughBy 29 = .ok (.iadd, 1) := by decide +kernel
theorem dX12_enoughBy_30 : decode cX12_enoughBy 30 = .ok (.iaload, 1) := by decide +kernel
theorem dX12_enoughBy_31 : decode cX12_enoughBy 31 = .ok (.if_icmp .lt 12, 3) := by decide +kernel
theorem dX12_enoughBy_34 : decode cX12_enoughBy 34 = .ok (.aload_n 0, 1) := by decide +kernel
theorem dX12_enoughBy_35 : decode cX12_enoughBy 35 = .ok (.iload 5, 2) := by decide +kernel
theorem dX12_enoughBy_37 : decode cX12_enoughBy 37 = .ok (.invokevirtual 293, 3) := by decide +kernel
theorem dX12_enoughBy_40 : decode cX12_enoughBy 40 = .ok (.goto 4, 3) := by decide +kernel
theorem dX12_enoughBy_43 : decode cX12_enoughBy 43 = .ok (.lconst 0, 1) := by decide +kernel
theorem dX12_enoughBy_44 : decode cX12_enoughBy 44 = .ok (.ladd, 1) := by decide +kernel
theorem dX12_enoughBy_45 : decode cX12_enoughBy 45 = .ok (.lstore_n 3, 1) := by decide +kernel
theorem dX12_enoughBy_46 : decode cX12_enoughBy 46 = .ok (.iinc 5 1, 3) := by decide +kernel
theorem dX12_enoughBy_49 : decode cX12_enoughBy 49 = .ok (.goto (-44), 3) := by decide +kernel
theorem dX12_enoughBy_52 : decode cX12_enoughBy 52 = .ok (.lload_n 3, 1) := by decide +kernel
theorem dX12_enoughBy_53 : decode cX12_enoughBy 53 = .ok (.lreturn, 1) := by decide +kernel
theorem dX12_isOften_0 : decode cX12_isOften 0 = .ok (.aload_n 0, 1) := by decide +kernel
theorem dX12_isOften_1 : decode cX12_isOften 1 = .ok (.getfield 9, 3) := by decide +kernel
theorem dX12_isOften_4 : decode cX12_isOften 4 = .ok (.iconst 4, 1) := by decide +kernel
theorem dX12_isOften_5 : decode cX12_isOften 5 = .ok (.iaload, 1) := by decide +kernel
theorem dX12_isOften_6 : decode cX12_isOften 6 = .ok (.ifCond .ne 22, 3) := by decide +kernel
theorem dX12_isOften_9 : decode cX12_isOften 9 = .ok (.lload_n 1, 1) := by decide +kernel
theorem dX12_isOften_10 : decode cX12_isOften 10 = .ok (.ldc2_w 291, 3) := by decide +kernel
theorem dX12_isOften_13 : decode cX12_isOften 13 = .ok (.lmul, 1) := by decide +kernel
theorem dX12_isOften_14 : decode cX12_isOften 14 = .ok (.iload_n 3, 1) := by decide +kernel
theorem dX12_isOften_15 : decode cX12_isOften 15 = .ok (.i2l, 1) := by decide +kernel
theorem dX12_isOften_16 : decode cX12_isOften 16 = .ok (.lcmp, 1) := by decide +kernel
theorem dX12_isOften_17 : decode cX12_isOften 17 = .ok (.ifCond .lt 7, 3) := by decide +kernel
theorem dX12_isOften_20 : decode cX12_isOften 20 = .ok (.iconst 1, 1) := by decide +kernel
theorem dX12_isOften_21 : decode cX12_isOften 21 = .ok (.goto 28, 3) := by decide +kernel
theorem dX12_isOften_24 : decode cX12_isOften 24 = .ok (.iconst 0, 1) := by decide +kernel
theorem dX12_isOften_25 : decode cX12_isOften 25 = .ok (.goto 24, 3) := by decide +kernel
theorem dX12_isOften_28 : decode cX12_isOften 28 = .ok (.lload_n 1, 1) := by decide +kernel
theorem dX12_isOften_29 : decode cX12_isOften 29 = .ok (.aload_n 0, 1) := by decide +kernel
theorem dX12_isOften_30 : decode cX12_isOften 30 = .ok (.invokevirtual 297, 3) := by decide +kernel
theorem dX12_isOften_33 : decode cX12_isOften 33 = .ok (.ldc2_w 291, 3) := by decide +kernel
theorem dX12_isOften_36 : decode cX12_isOften 36 = .ok (.ldiv, 1) := by decide +kernel
theorem dX12_isOften_37 : decode cX12_isOften 37 = .ok (.iload_n 3, 1) := by decide +kernel
theorem dX12_isOften_38 : decode cX12_isOften 38 = .ok (.i2l, 1) := by decide +kernel
theorem dX12_isOften_39 : decode cX12_isOften 39 = .ok (.lmul, 1) := by decide +kernel
theorem dX12_isOften_40 : decode cX12_isOften 40 = .ok (.lcmp, 1) := by decide +kernel
theorem dX12_isOften_41 : decode cX12_isOften 41 = .ok (.ifCond .lt 7, 3) := by decide +kernel
theorem dX12_isOften_44 : decode cX12_isOften 44 = .ok (.iconst 1, 1) := by decide +kernel
theorem dX12_isOften_45 : decode cX12_isOften 45 = .ok (.goto 4, 3) := by decide +kernel
theorem dX12_isOften_48 : decode cX12_isOften 48 = .ok (.iconst 0, 1) := by decide +kernel
theorem dX12_isOften_49 : decode cX12_isOften 49 = .ok (.ireturn, 1) := by decide +kernel
theorem dX12_findRisk_0 : decode cX12_findRisk 0 = .ok (.aload_n 0, 1) := by decide +kernel
theorem dX12_findRisk_1 : decode cX12_findRisk 1 = .ok (.iconst (-1), 1) := by decide +kernel
theorem dX12_findRisk_2 : decode cX12_findRisk 2 = .ok (.putfield 308, 3) := by decide +kernel
theorem dX12_findRisk_5 : decode cX12_findRisk 5 = .ok (.aload_n 0, 1) := by decide +kernel
theorem dX12_findRisk_6 : decode cX12_findRisk 6 = .ok (.iload_n 1, 1) := by decide +kernel
theorem dX12_findRisk_7 : decode cX12_findRisk 7 = .ok (.invokevirtual 314, 3) := by decide +kernel
theorem dX12_findRisk_10 : decode cX12_findRisk 10 = .ok (.istore_n 3, 1) := by decide +kernel
theorem dX12_findRisk_11 : decode cX12_findRisk 11 = .ok (.iconst 0, 1) := by decide +kernel
theorem dX12_findRisk_12 : decode cX12_findRisk 12 = .ok (.istore 4, 2) := by decide +kernel
theorem dX12_findRisk_14 : decode cX12_findRisk 14 = .ok (.iload 4, 2) := by decide +kernel
theorem dX12_findRisk_16 : decode cX12_findRisk 16 = .ok (.iload_n 3, 1) := by decide +kernel
theorem dX12_findRisk_17 : decode cX12_findRisk 17 = .ok (.if_icmp .gt 66, 3) := by decide +kernel
theorem dX12_findRisk_20 : decode cX12_findRisk 20 = .ok (.iload 4, 2) := by decide +kernel
theorem dX12_findRisk_22 : decode cX12_findRisk 22 = .ok (.iload_n 3, 1) := by decide +kernel
theorem dX12_findRisk_23 : decode cX12_findRisk 23 = .ok (.iconst (-1), 1) := by decide +kernel
theorem dX12_findRisk_24 : decode cX12_findRisk 24 = .ok (.ixor, 1) := by decide +kernel
theorem dX12_findRisk_25 : decode cX12_findRisk 25 = .ok (.iand, 1) := by decide +kernel
theorem dX12_findRisk_26 : decode cX12_findRisk 26 = .ok (.ifCond .ne 51, 3) := by decide +kernel
theorem dX12_findRisk_29 : decode cX12_findRisk 29 = .ok (.aload_n 0, 1) := by decide +kernel
theorem dX12_findRisk_30 : decode cX12_findRisk 30 = .ok (.getfield 308, 3) := by decide +kernel
theorem dX12_findRisk_33 : decode cX12_findRisk 33 = .ok (.iconst (-1), 1) := by decide +kernel
theorem dX12_findRisk_34 : decode cX12_findRisk 34 = .ok (.if_icmp .eq 16, 3) := by decide +kernel
theorem dX12_findRisk_37 : decode cX12_findRisk 37 = .ok (.aload_n 0, 1) := by decide +kernel
theorem dX12_findRisk_38 : decode cX12_findRisk 38 = .ok (.iload 4, 2) := by decide +kernel
theorem dX12_findRisk_40 : decode cX12_findRisk 40 = .ok (.invokevirtual 320, 3) := by decide +kernel
theorem dX12_findRisk_43 : decode cX12_findRisk 43 = .ok (.aload_n 0, 1) := by decide +kernel
theorem dX12_findRisk_44 : decode cX12_findRisk 44 = .ok (.getfield 311, 3) := by decide +kernel
theorem dX12_findRisk_47 : decode cX12_findRisk 47 = .ok (.if_icmp .ge 30, 3) := by decide +kernel
theorem dX12_findRisk_50 : decode cX12_findRisk 50 = .ok (.aload_n 0, 1) := by decide +kernel
theorem dX12_findRisk_51 : decode cX12_findRisk 51 = .ok (.aload_n 0, 1) := by decide +kernel
theorem dX12_findRisk_52 : decode cX12_findRisk 52 = .ok (.iload_n 1, 1) := by decide +kernel
theorem dX12_findRisk_53 : decode cX12_findRisk 53 = .ok (.iload 4, 2) := by decide +kernel
theorem dX12_findRisk_55 : decode cX12_findRisk 55 = .ok (.invokevirtual 334, 3) := by decide +kernel
theorem dX12_findRisk_58 : decode cX12_findRisk 58 = .ok (.iload_n 2, 1) := by decide +kernel
theorem dX12_findRisk_59 : decode cX12_findRisk 59 = .ok (.invokevirtual 338, 3) := by decide +kernel
theorem dX12_findRisk_62 : decode cX12_findRisk 62 = .ok (.ifCond .eq 15, 3) := by decide +kernel
theorem dX12_findRisk_65 : decode cX12_findRisk 65 = .ok (.aload_n 0, 1) := by decide +kernel
theorem dX12_findRisk_66 : decode cX12_findRisk 66 = .ok (.aload_n 0, 1) := by decide +kernel
theorem dX12_findRisk_67 : decode cX12_findRisk 67 = .ok (.iload 4, 2) := by decide +kernel
theorem dX12_findRisk_69 : decode cX12_findRisk 69 = .ok (.invokevirtual 320, 3) := by decide +kernel
theorem dX12_findRisk_72 : decode cX12_findRisk 72 = .ok (.iload 4, 2) := by decide +kernel
theorem dX12_findRisk_74 : decode cX12_findRisk 74 = .ok (.invokevirtual 323, 3) := by decide +kernel
theorem dX12_findRisk_77 : decode cX12_findRisk 77 = .ok (.iinc 4 1, 3) := by decide +kernel
theorem dX12_findRisk_80 : decode cX12_findRisk 80 = .ok (.goto (-66), 3) := by decide +kernel
theorem dX12_findRisk_83 : decode cX12_findRisk 83 = .ok (.return_, 1) := by decide +kernel
theorem dX12_risk_0 : decode cX12_risk 0 = .ok (.aload_n 0, 1) := by decide +kernel
theorem dX12_risk_1 : decode cX12_risk 1 = .ok (.iload_n 1, 1) := by decide +kernel
theorem dX12_risk_2 : decode cX12_risk 2 = .ok (.invokevirtual 236, 3) := by decide +kernel
theorem dX12_risk_5 : decode cX12_risk 5 = .ok (.ifCond .eq 15, 3) := by decide +kernel
theorem dX12_risk_8 : decode cX12_risk 8 = .ok (.iload_n 2, 1) := by decide +kernel
theorem dX12_risk_9 : decode cX12_risk 9 = .ok (.i2l, 1) := by decide +kernel
theorem dX12_risk_10 : decode cX12_risk 10 = .ok (.lconst 0, 1) := by decide +kernel
theorem dX12_risk_11 : decode cX12_risk 11 = .ok (.ldc2_w 291, 3) := by decide +kernel
theorem dX12_risk_14 : decode cX12_risk 14 = .ok (.invokestatic 70, 3) := by decide +kernel
theorem dX12_risk_17 : decode cX12_risk 17 = .ok (.ifCond .ne 6, 3) := by decide +kernel
theorem dX12_risk_20 : decode cX12_risk 20 = .ok (.bipush (-2), 2) := by decide +kernel
theorem dX12_risk_22 : decode cX12_risk 22 = .ok (.ireturn, 1) := by decide +kernel
theorem dX12_risk_23 : decode cX12_risk 23 = .ok (.aload_n 0, 1) := by decide +kernel
theorem dX12_risk_24 : decode cX12_risk 24 = .ok (.iload_n 1, 1) := by decide +kernel
theorem dX12_risk_25 : decode cX12_risk 25 = .ok (.iload_n 2, 1) := by decide +kernel
theorem dX12_risk_26 : decode cX12_risk 26 = .ok (.invokevirtual 342, 3) := by decide +kernel
theorem dX12_risk_29 : decode cX12_risk 29 = .ok (.aload_n 0, 1) := by decide +kernel
theorem dX12_risk_30 : decode cX12_risk 30 = .ok (.invokevirtual 331, 3) := by decide +kernel
theorem dX12_risk_33 : decode cX12_risk 33 = .ok (.ireturn, 1) := by decide +kernel
theorem dX12_risked_0 : decode cX12_risked 0 = .ok (.aload_n 0, 1) := by decide +kernel
theorem dX12_risked_1 : decode cX12_risked 1 = .ok (.iload_n 1, 1) := by decide +kernel
theorem dX12_risked_2 : decode cX12_risked 2 = .ok (.invokevirtual 236, 3) := by decide +kernel
theorem dX12_risked_5 : decode cX12_risked 5 = .ok (.ifCond .eq 15, 3) := by decide +kernel
theorem dX12_risked_8 : decode cX12_risked 8 = .ok (.iload_n 2, 1) := by decide +kernel
theorem dX12_risked_9 : decode cX12_risked 9 = .ok (.i2l, 1) := by decide +kernel
theorem dX12_risked_10 : decode cX12_risked 10 = .ok (.lconst 0, 1) := by decide +kernel
theorem dX12_risked_11 : decode cX12_risked 11 = .ok (.ldc2_w 291, 3) := by decide +kernel
theorem dX12_risked_14 : decode cX12_risked 14 = .ok (.invokestatic 70, 3) := by decide +kernel
theorem dX12_risked_17 : decode cX12_risked 17 = .ok (.ifCond .ne 6, 3) := by decide +kernel
theorem dX12_risked_20 : decode cX12_risked 20 = .ok (.bipush (-2), 2) := by decide +kernel
theorem dX12_risked_22 : decode cX12_risked 22 = .ok (.ireturn, 1) := by decide +kernel
theorem dX12_risked_23 : decode cX12_risked 23 = .ok (.aload_n 0, 1) := by decide +kernel
theorem dX12_risked_24 : decode cX12_risked 24 = .ok (.iload_n 1, 1) := by decide +kernel
theorem dX12_risked_25 : decode cX12_risked 25 = .ok (.iload_n 2, 1) := by decide +kernel
theorem dX12_risked_26 : decode cX12_risked 26 = .ok (.invokevirtual 342, 3) := by decide +kernel
theorem dX12_risked_29 : decode cX12_risked 29 = .ok (.aload_n 0, 1) := by decide +kernel
theorem dX12_risked_30 : decode cX12_risked 30 = .ok (.getfield 308, 3) := by decide +kernel
theorem dX12_risked_33 : decode cX12_risked 33 = .ok (.ireturn, 1) := by decide +kernel
theorem dX12_findBribe_0 : decode cX12_findBribe 0 = .ok (.aload_n 0, 1) := by decide +kernel
theorem dX12_findBribe_1 : decode cX12_findBribe 1 = .ok (.iconst (-1), 1) := by decide +kernel
theorem dX12_findBribe_2 : decode cX12_findBribe 2 = .ok (.putfield 308, 3) := by decide +kernel
theorem dX12_findBribe_5 : decode cX12_findBribe 5 = .ok (.aload_n 0, 1) := by decide +kernel
theorem dX12_findBribe_6 : decode cX12_findBribe 6 = .ok (.iload_n 1, 1) := by decide +kernel
theorem dX12_findBribe_7 : decode cX12_findBribe 7 = .ok (.invokevirtual 314, 3) := by decide +kernel
theorem dX12_findBribe_10 : decode cX12_findBribe 10 = .ok (.iload_n 2, 1) := by decide +kernel
theorem dX12_findBribe_11 : decode cX12_findBribe 11 = .ok (.iconst (-1), 1) := by decide +kernel
theorem dX12_findBribe_12 : decode cX12_findBribe 12 = .ok (.ixor, 1) := by decide +kernel
theorem dX12_findBribe_13 : decode cX12_findBribe 13 = .ok (.iand, 1) := by decide +kernel
theorem dX12_findBribe_14 : decode cX12_findBribe 14 = .ok (.istore_n 3, 1) := by decide +kernel
theorem dX12_findBribe_15 : decode cX12_findBribe 15 = .ok (.iconst 0, 1) := by decide +kernel
theorem dX12_findBribe_16 : decode cX12_findBribe 16 = .ok (.istore 4, 2) := by decide +kernel
theorem dX12_findBribe_18 : decode cX12_findBribe 18 = .ok (.iload 4, 2) := by decide +kernel
theorem dX12_findBribe_20 : decode cX12_findBribe 20 = .ok (.iload_n 3, 1) := by decide +kernel
theorem dX12_findBribe_21 : decode cX12_findBribe 21 = .ok (.if_icmp .gt 40, 3) := by decide +kernel
theorem dX12_findBribe_24 : decode cX12_findBribe 24 = .ok (.iload 4, 2) := by decide +kernel
theorem dX12_findBribe_26 : decode cX12_findBribe 26 = .ok (.iload_n 3, 1) := by decide +kernel
theorem dX12_findBribe_27 : decode cX12_findBribe 27 = .ok (.iconst (-1), 1) := by decide +kernel
theorem dX12_findBribe_28 : decode cX12_findBribe 28 = .ok (.ixor, 1) := by decide +kernel
theorem dX12_findBribe_29 : decode cX12_findBribe 29 = .ok (.iand, 1) := by decide +kernel
theorem dX12_findBribe_30 : decode cX12_findBribe 30 = .ok (.ifCond .ne 25, 3) := by decide +kernel
theorem dX12_findBribe_33 : decode cX12_findBribe 33 = .ok (.aload_n 0, 1) := by decide +kernel
theorem dX12_findBribe_34 : decode cX12_findBribe 34 = .ok (.iload_n 1, 1) := by decide +kernel
theorem dX12_findBribe_35 : decode cX12_findBribe 35 = .ok (.iload 4, 2) := by decide +kernel
theorem dX12_findBribe_37 : decode cX12_findBribe 37 = .ok (.invokevirtual 254, 3) := by decide +kernel
theorem dX12_findBribe_40 : decode cX12_findBribe 40 = .ok (.ifCond .eq 15, 3) := by decide +kernel
theorem dX12_findBribe_43 : decode cX12_findBribe 43 = .ok (.aload_n 0, 1) := by decide +kernel
theorem dX12_findBribe_44 : decode cX12_findBribe 44 = .ok (.aload_n 0, 1) := by decide +kernel
theorem dX12_findBribe_45 : decode cX12_findBribe 45 = .ok (.iload 4, 2) := by decide +kernel
theorem dX12_findBribe_47 : decode cX12_findBribe 47 = .ok (.invokevirtual 320, 3) := by decide +kernel
theorem dX12_findBribe_50 : decode cX12_findBribe 50 = .ok (.iload 4, 2) := by decide +kernel
theorem dX12_findBribe_52 : decode cX12_findBribe 52 = .ok (.invokevirtual 323, 3) := by decide +kernel
theorem dX12_findBribe_55 : decode cX12_findBribe 55 = .ok (.iinc 4 1, 3) := by decide +kernel
theorem dX12_findBribe_58 : decode cX12_findBribe 58 = .ok (.goto (-40), 3) := by decide +kernel
theorem dX12_findBribe_61 : decode cX12_findBribe 61 = .ok (.return_, 1) := by decide +kernel
theorem dX12_bribe_0 : decode cX12_bribe 0 = .ok (.aload_n 0, 1) := by decide +kernel
theorem dX12_bribe_1 : decode cX12_bribe 1 = .ok (.iload_n 1, 1) := by decide +kernel
theorem dX12_bribe_2 : decode cX12_bribe 2 = .ok (.invokevirtual 236, 3) := by decide +kernel
theorem dX12_bribe_5 : decode cX12_bribe 5 = .ok (.ifCond .ne 6, 3) := by decide +kernel
theorem dX12_bribe_8 : decode cX12_bribe 8 = .ok (.bipush (-2), 2) := by decide +kernel
theorem dX12_bribe_10 : decode cX12_bribe 10 = .ok (.ireturn, 1) := by decide +kernel
theorem dX12_bribe_11 : decode cX12_bribe 11 = .ok (.aload_n 0, 1) := by decide +kernel
theorem dX12_bribe_12 : decode cX12_bribe 12 = .ok (.iload_n 1, 1) := by decide +kernel
theorem dX12_bribe_13 : decode cX12_bribe 13 = .ok (.iconst 0, 1) := by decide +kernel
theorem dX12_bribe_14 : decode cX12_bribe 14 = .ok (.invokevirtual 345, 3) := by decide +kernel
theorem dX12_bribe_17 : decode cX12_bribe 17 = .ok (.aload_n 0, 1) := by decide +kernel
theorem dX12_bribe_18 : decode cX12_bribe 18 = .ok (.invokevirtual 331, 3) := by decide +kernel
theorem dX12_bribe_21 : decode cX12_bribe 21 = .ok (.ireturn, 1) := by decide +kernel
theorem dX12_bribed_0 : decode cX12_bribed 0 = .ok (.aload_n 0, 1) := by decide +kernel
theorem dX12_bribed_1 : decode cX12_bribed 1 = .ok (.iload_n 1, 1) := by decide +kernel
theorem dX12_bribed_2 : decode cX12_bribed 2 = .ok (.invokevirtual 236, 3) := by decide +kernel
theorem dX12_bribed_5 : decode cX12_bribed 5 = .ok (.ifCond .ne 6, 3) := by decide +kernel
theorem dX12_bribed_8 : decode cX12_bribed 8 = .ok (.bipush (-2), 2) := by decide +kernel
theorem dX12_bribed_10 : decode cX12_bribed 10 = .ok (.ireturn, 1) := by decide +kernel
theorem dX12_bribed_11 : decode cX12_bribed 11 = .ok (.aload_n 0, 1) := by decide +kernel
theorem dX12_bribed_12 : decode cX12_bribed 12 = .ok (.iload_n 1, 1) := by decide +kernel
theorem dX12_bribed_13 : decode cX12_bribed 13 = .ok (.iconst 0, 1) := by decide +kernel
theorem dX12_bribed_14 : decode cX12_bribed 14 = .ok (.invokevirtual 345, 3) := by decide +kernel
theorem dX12_bribed_17 : decode cX12_bribed 17 = .ok (.aload_n 0, 1) := by decide +kernel
theorem dX12_bribed_18 : decode cX12_bribed 18 = .ok (.getfield 308, 3) := by decide +kernel
theorem dX12_bribed_21 : decode cX12_bribed 21 = .ok (.ireturn, 1) := by decide +kernel
theorem dX12_guardOf_0 : decode cX12_guardOf 0 = .ok (.aload_n 0, 1) := by decide +kernel
theorem dX12_guardOf_1 : decode cX12_guardOf 1 = .ok (.iload_n 1, 1) := by decide +kernel
theorem dX12_guardOf_2 : decode cX12_guardOf 2 = .ok (.iconst 0, 1) := by decide +kernel
theorem dX12_guardOf_3 : decode cX12_guardOf 3 = .ok (.invokevirtual 345, 3) := by decide +kernel
theorem dX12_guardOf_6 : decode cX12_guardOf 6 = .ok (.iconst (-1), 1) := by decide +kernel
theorem dX12_guardOf_7 : decode cX12_guardOf 7 = .ok (.istore_n 2, 1) := by decide +kernel
theorem dX12_guardOf_8 : decode cX12_guardOf 8 = .ok (.aload_n 0, 1) := by decide +kernel
theorem dX12_guardOf_9 : decode cX12_guardOf 9 = .ok (.aload_n 0, 1) := by decide +kernel
theorem dX12_guardOf_10 : decode cX12_guardOf 10 = .ok (.getfield 308, 3) := by decide +kernel
theorem dX12_guardOf_13 : decode cX12_guardOf 13 = .ok (.iconst (-1), 1) := by decide +kernel
theorem dX12_guardOf_14 : decode cX12_guardOf 14 = .ok (.if_icmp .ne 9, 3) := by decide +kernel
theorem dX12_guardOf_17 : decode cX12_guardOf 17 = .ok (.ldc_w 280, 3) := by decide +kernel
theorem dX12_guardOf_20 : decode cX12_guardOf 20 = .ok (.goto 7, 3) := by decide +kernel
theorem dX12_guardOf_23 : decode cX12_guardOf 23 = .ok (.aload_n 0, 1) := by decide +kernel
theorem dX12_guardOf_24 : decode cX12_guardOf 24 = .ok (.getfield 311, 3) := by decide +kernel
theorem dX12_guardOf_27 : decode cX12_guardOf 27 = .ok (.putfield 348, 3) := by decide +kernel
theorem dX12_guardOf_30 : decode cX12_guardOf 30 = .ok (.iconst 0, 1) := by decide +kernel
theorem dX12_guardOf_31 : decode cX12_guardOf 31 = .ok (.istore_n 3, 1) := by decide +kernel
theorem dX12_guardOf_32 : decode cX12_guardOf 32 = .ok (.iload_n 3, 1) := by decide +kernel
theorem dX12_guardOf_33 : decode cX12_guardOf 33 = .ok (.aload_n 0, 1) := by decide +kernel
theorem dX12_guardOf_34 : decode cX12_guardOf 34 = .ok (.getfield 9, 3) := by decide +kernel
theorem dX12_guardOf_37 : decode cX12_guardOf 37 = .ok (.iconst 4, 1) := by decide +kernel
theorem dX12_guardOf_38 : decode cX12_guardOf 38 = .ok (.iaload, 1) := by decide +kernel
theorem dX12_guardOf_39 : decode cX12_guardOf 39 = .ok (.if_icmp .ge 70, 3) := by decide +kernel
theorem dX12_guardOf_42 : decode cX12_guardOf 42 = .ok (.aload_n 0, 1) := by decide +kernel
theorem dX12_guardOf_43 : decode cX12_guardOf 43 = .ok (.iload_n 3, 1) := by decide +kernel
