theorem dX0_init_0 : decode cX0_init 0 = .ok (.aload_n 0, 1) := by decide +kernel
theorem dX0_init_1 : decode cX0_init 1 = .ok (.invokespecial 3, 3) := by decide +kernel
theorem dX0_init_4 : decode cX0_init 4 = .ok (.aload_n 0, 1) := by decide +kernel
theorem dX0_init_5 : decode cX0_init 5 = .ok (.bipush 8, 2) := by decide +kernel
theorem dX0_init_7 : decode cX0_init 7 = .ok (.newarray .int, 2) := by decide +kernel
theorem dX0_init_9 : decode cX0_init 9 = .ok (.putfield 9, 3) := by decide +kernel
theorem dX0_init_12 : decode cX0_init 12 = .ok (.aload_n 0, 1) := by decide +kernel
theorem dX0_init_13 : decode cX0_init 13 = .ok (.aload_n 1, 1) := by decide +kernel
theorem dX0_init_14 : decode cX0_init 14 = .ok (.putfield 15, 3) := by decide +kernel
theorem dX0_init_17 : decode cX0_init 17 = .ok (.return_, 1) := by decide +kernel
theorem dX0_bestSet_0 : decode cX0_bestSet 0 = .ok (.aload_n 0, 1) := by decide +kernel
theorem dX0_bestSet_1 : decode cX0_bestSet 1 = .ok (.invokevirtual 19, 3) := by decide +kernel
theorem dX0_bestSet_4 : decode cX0_bestSet 4 = .ok (.iconst 0, 1) := by decide +kernel
theorem dX0_bestSet_5 : decode cX0_bestSet 5 = .ok (.istore_n 2, 1) := by decide +kernel
theorem dX0_bestSet_6 : decode cX0_bestSet 6 = .ok (.iconst 0, 1) := by decide +kernel
theorem dX0_bestSet_7 : decode cX0_bestSet 7 = .ok (.istore_n 3, 1) := by decide +kernel
theorem dX0_bestSet_8 : decode cX0_bestSet 8 = .ok (.iconst 1, 1) := by decide +kernel
theorem dX0_bestSet_9 : decode cX0_bestSet 9 = .ok (.istore 4, 2) := by decide +kernel
theorem dX0_bestSet_11 : decode cX0_bestSet 11 = .ok (.iload 4, 2) := by decide +kernel
theorem dX0_bestSet_13 : decode cX0_bestSet 13 = .ok (.iconst 1, 1) := by decide +kernel
theorem dX0_bestSet_14 : decode cX0_bestSet 14 = .ok (.aload_n 0, 1) := by decide +kernel
theorem dX0_bestSet_15 : decode cX0_bestSet 15 = .ok (.getfield 15, 3) := by decide +kernel
theorem dX0_bestSet_18 : decode cX0_bestSet 18 = .ok (.getfield 22, 3) := by decide +kernel
theorem dX0_bestSet_21 : decode cX0_bestSet 21 = .ok (.getfield 28, 3) := by decide +kernel
theorem dX0_bestSet_24 : decode cX0_bestSet 24 = .ok (.ishl, 1) := by decide +kernel
theorem dX0_bestSet_25 : decode cX0_bestSet 25 = .ok (.if_icmp .ge 39, 3) := by decide +kernel
theorem dX0_bestSet_28 : decode cX0_bestSet 28 = .ok (.aload_n 0, 1) := by decide +kernel
theorem dX0_bestSet_29 : decode cX0_bestSet 29 = .ok (.iload 4, 2) := by decide +kernel
theorem dX0_bestSet_31 : decode cX0_bestSet 31 = .ok (.invokevirtual 34, 3) := by decide +kernel
theorem dX0_bestSet_34 : decode cX0_bestSet 34 = .ok (.istore 5, 2) := by decide +kernel
theorem dX0_bestSet_36 : decode cX0_bestSet 36 = .ok (.iload 5, 2) := by decide +kernel
theorem dX0_bestSet_38 : decode cX0_bestSet 38 = .ok (.iload_n 3, 1) := by decide +kernel
theorem dX0_bestSet_39 : decode cX0_bestSet 39 = .ok (.if_icmp .le 19, 3) := by decide +kernel
theorem dX0_bestSet_42 : decode cX0_bestSet 42 = .ok (.aload_n 0, 1) := by decide +kernel
theorem dX0_bestSet_43 : decode cX0_bestSet 43 = .ok (.iload 4, 2) := by decide +kernel
theorem dX0_bestSet_45 : decode cX0_bestSet 45 = .ok (.iload_n 1, 1) := by decide +kernel
theorem dX0_bestSet_46 : decode cX0_bestSet 46 = .ok (.invokevirtual 38, 3) := by decide +kernel
theorem dX0_bestSet_49 : decode cX0_bestSet 49 = .ok (.ifCond .eq 9, 3) := by decide +kernel
theorem dX0_bestSet_52 : decode cX0_bestSet 52 = .ok (.iload 5, 2) := by decide +kernel
theorem dX0_bestSet_54 : decode cX0_bestSet 54 = .ok (.istore_n 3, 1) := by decide +kernel
theorem dX0_bestSet_55 : decode cX0_bestSet 55 = .ok (.iload 4, 2) := by decide +kernel
theorem dX0_bestSet_57 : decode cX0_bestSet 57 = .ok (.istore_n 2, 1) := by decide +kernel
theorem dX0_bestSet_58 : decode cX0_bestSet 58 = .ok (.iinc 4 1, 3) := by decide +kernel
theorem dX0_bestSet_61 : decode cX0_bestSet 61 = .ok (.goto (-50), 3) := by decide +kernel
theorem dX0_bestSet_64 : decode cX0_bestSet 64 = .ok (.iload_n 2, 1) := by decide +kernel
theorem dX0_bestSet_65 : decode cX0_bestSet 65 = .ok (.ireturn, 1) := by decide +kernel
theorem dX0_worthOf_0 : decode cX0_worthOf 0 = .ok (.iconst 0, 1) := by decide +kernel
theorem dX0_worthOf_1 : decode cX0_worthOf 1 = .ok (.istore_n 2, 1) := by decide +kernel
theorem dX0_worthOf_2 : decode cX0_worthOf 2 = .ok (.iconst 0, 1) := by decide +kernel
theorem dX0_worthOf_3 : decode cX0_worthOf 3 = .ok (.istore_n 3, 1) := by decide +kernel
theorem dX0_worthOf_4 : decode cX0_worthOf 4 = .ok (.iload_n 3, 1) := by decide +kernel
theorem dX0_worthOf_5 : decode cX0_worthOf 5 = .ok (.aload_n 0, 1) := by decide +kernel
theorem dX0_worthOf_6 : decode cX0_worthOf 6 = .ok (.getfield 15, 3) := by decide +kernel
theorem dX0_worthOf_9 : decode cX0_worthOf 9 = .ok (.getfield 22, 3) := by decide +kernel
theorem dX0_worthOf_12 : decode cX0_worthOf 12 = .ok (.getfield 28, 3) := by decide +kernel
theorem dX0_worthOf_15 : decode cX0_worthOf 15 = .ok (.if_icmp .ge 32, 3) := by decide +kernel
theorem dX0_worthOf_18 : decode cX0_worthOf 18 = .ok (.iload_n 1, 1) := by decide +kernel
theorem dX0_worthOf_19 : decode cX0_worthOf 19 = .ok (.iload_n 3, 1) := by decide +kernel
theorem dX0_worthOf_20 : decode cX0_worthOf 20 = .ok (.invokestatic 42, 3) := by decide +kernel
theorem dX0_worthOf_23 : decode cX0_worthOf 23 = .ok (.ifCond .eq 18, 3) := by decide +kernel
theorem dX0_worthOf_26 : decode cX0_worthOf 26 = .ok (.iload_n 2, 1) := by decide +kernel
theorem dX0_worthOf_27 : decode cX0_worthOf 27 = .ok (.aload_n 0, 1) := by decide +kernel
theorem dX0_worthOf_28 : decode cX0_worthOf 28 = .ok (.getfield 15, 3) := by decide +kernel
theorem dX0_worthOf_31 : decode cX0_worthOf 31 = .ok (.getfield 22, 3) := by decide +kernel
theorem dX0_worthOf_34 : decode cX0_worthOf 34 = .ok (.iload_n 3, 1) := by decide +kernel
theorem dX0_worthOf_35 : decode cX0_worthOf 35 = .ok (.iconst 3, 1) := by decide +kernel
theorem dX0_worthOf_36 : decode cX0_worthOf 36 = .ok (.invokevirtual 46, 3) := by decide +kernel
theorem dX0_worthOf_39 : decode cX0_worthOf 39 = .ok (.iadd, 1) := by decide +kernel
theorem dX0_worthOf_40 : decode cX0_worthOf 40 = .ok (.istore_n 2, 1) := by decide +kernel
theorem dX0_worthOf_41 : decode cX0_worthOf 41 = .ok (.iinc 3 1, 3) := by decide +kernel
theorem dX0_worthOf_44 : decode cX0_worthOf 44 = .ok (.goto (-40), 3) := by decide +kernel
theorem dX0_worthOf_47 : decode cX0_worthOf 47 = .ok (.iload_n 2, 1) := by decide +kernel
theorem dX0_worthOf_48 : decode cX0_worthOf 48 = .ok (.ireturn, 1) := by decide +kernel
theorem dX0_canStand_0 : decode cX0_canStand 0 = .ok (.iconst 0, 1) := by decide +kernel
theorem dX0_canStand_1 : decode cX0_canStand 1 = .ok (.istore_n 3, 1) := by decide +kernel
theorem dX0_canStand_2 : decode cX0_canStand 2 = .ok (.iconst (-1), 1) := by decide +kernel
theorem dX0_canStand_3 : decode cX0_canStand 3 = .ok (.istore 4, 2) := by decide +kernel
theorem dX0_canStand_5 : decode cX0_canStand 5 = .ok (.iconst 0, 1) := by decide +kernel
theorem dX0_canStand_6 : decode cX0_canStand 6 = .ok (.istore 5, 2) := by decide +kernel
theorem dX0_canStand_8 : decode cX0_canStand 8 = .ok (.iload 5, 2) := by decide +kernel
theorem dX0_canStand_10 : decode cX0_canStand 10 = .ok (.aload_n 0, 1) := by decide +kernel
theorem dX0_canStand_11 : decode cX0_canStand 11 = .ok (.getfield 15, 3) := by decide +kernel
theorem dX0_canStand_14 : decode cX0_canStand 14 = .ok (.getfield 22, 3) := by decide +kernel
theorem dX0_canStand_17 : decode cX0_canStand 17 = .ok (.getfield 28, 3) := by decide +kernel
theorem dX0_canStand_20 : decode cX0_canStand 20 = .ok (.if_icmp .ge 126, 3) := by decide +kernel
theorem dX0_canStand_23 : decode cX0_canStand 23 = .ok (.iload 5, 2) := by decide +kernel
theorem dX0_canStand_25 : decode cX0_canStand 25 = .ok (.aload_n 0, 1) := by decide +kernel
theorem dX0_canStand_26 : decode cX0_canStand 26 = .ok (.getfield 9, 3) := by decide +kernel
theorem dX0_canStand_29 : decode cX0_canStand 29 = .ok (.arraylength, 1) := by decide +kernel
theorem dX0_canStand_30 : decode cX0_canStand 30 = .ok (.if_icmp .ge 116, 3) := by decide +kernel
theorem dX0_canStand_33 : decode cX0_canStand 33 = .ok (.aload_n 0, 1) := by decide +kernel
theorem dX0_canStand_34 : decode cX0_canStand 34 = .ok (.getfield 9, 3) := by decide +kernel
theorem dX0_canStand_37 : decode cX0_canStand 37 = .ok (.iload 5, 2) := by decide +kernel
theorem dX0_canStand_39 : decode cX0_canStand 39 = .ok (.iaload, 1) := by decide +kernel
theorem dX0_canStand_40 : decode cX0_canStand 40 = .ok (.istore 6, 2) := by decide +kernel
theorem dX0_canStand_42 : decode cX0_canStand 42 = .ok (.iload_n 1, 1) := by decide +kernel
theorem dX0_canStand_43 : decode cX0_canStand 43 = .ok (.iload 6, 2) := by decide +kernel
theorem dX0_canStand_45 : decode cX0_canStand 45 = .ok (.invokestatic 42, 3) := by decide +kernel
theorem dX0_canStand_48 : decode cX0_canStand 48 = .ok (.ifCond .eq 92, 3) := by decide +kernel
theorem dX0_canStand_51 : decode cX0_canStand 51 = .ok (.aload_n 0, 1) := by decide +kernel
theorem dX0_canStand_52 : decode cX0_canStand 52 = .ok (.getfield 15, 3) := by decide +kernel
theorem dX0_canStand_55 : decode cX0_canStand 55 = .ok (.getfield 22, 3) := by decide +kernel
theorem dX0_canStand_58 : decode cX0_canStand 58 = .ok (.iload 6, 2) := by decide +kernel
theorem dX0_canStand_60 : decode cX0_canStand 60 = .ok (.iconst 1, 1) := by decide +kernel
theorem dX0_canStand_61 : decode cX0_canStand 61 = .ok (.invokevirtual 46, 3) := by decide +kernel
theorem dX0_canStand_64 : decode cX0_canStand 64 = .ok (.istore 7, 2) := by decide +kernel
theorem dX0_canStand_66 : decode cX0_canStand 66 = .ok (.aload_n 0, 1) := by decide +kernel
theorem dX0_canStand_67 : decode cX0_canStand 67 = .ok (.getfield 15, 3) := by decide +kernel
theorem dX0_canStand_70 : decode cX0_canStand 70 = .ok (.getfield 22, 3) := by decide +kernel
theorem dX0_canStand_73 : decode cX0_canStand 73 = .ok (.iload 6, 2) := by decide +kernel
theorem dX0_canStand_75 : decode cX0_canStand 75 = .ok (.iconst 0, 1) := by decide +kernel
theorem dX0_canStand_76 : decode cX0_canStand 76 = .ok (.invokevirtual 46, 3) := by decide +kernel
theorem dX0_canStand_79 : decode cX0_canStand 79 = .ok (.iload 4, 2) := by decide +kernel
theorem dX0_canStand_81 : decode cX0_canStand 81 = .ok (.if_icmp .ne 7, 3) := by decide +kernel
theorem dX0_canStand_84 : decode cX0_canStand 84 = .ok (.iconst 1, 1) := by decide +kernel
theorem dX0_canStand_85 : decode cX0_canStand 85 = .ok (.goto 4, 3) := by decide +kernel
theorem dX0_canStand_88 : decode cX0_canStand 88 = .ok (.iconst 0, 1) := by decide +kernel
theorem dX0_canStand_89 : decode cX0_canStand 89 = .ok (.istore 8, 2) := by decide +kernel
theorem dX0_canStand_91 : decode cX0_canStand 91 = .ok (.iload 7, 2) := by decide +kernel
theorem dX0_canStand_93 : decode cX0_canStand 93 = .ok (.iload_n 3, 1) := by decide +kernel
theorem dX0_canStand_94 : decode cX0_canStand 94 = .ok (.if_icmp .lt 12, 3) := by decide +kernel
theorem dX0_canStand_97 : decode cX0_canStand 97 = .ok (.iload_n 2, 1) := by decide +kernel
theorem dX0_canStand_98 : decode cX0_canStand 98 = .ok (.ifCond .eq 10, 3) := by decide +kernel
theorem dX0_canStand_101 : decode cX0_canStand 101 = .ok (.iload 8, 2) := by decide +kernel
theorem dX0_canStand_103 : decode cX0_canStand 103 = .ok (.ifCond .eq 5, 3) := by decide +kernel
theorem dX0_canStand_106 : decode cX0_canStand 106 = .ok (.iconst 0, 1) := by decide +kernel
theorem dX0_canStand_107 : decode cX0_canStand 107 = .ok (.ireturn, 1) := by decide +kernel
theorem dX0_canStand_108 : decode cX0_canStand 108 = .ok (.iload 7, 2) := by decide +kernel
theorem dX0_canStand_110 : decode cX0_canStand 110 = .ok (.aload_n 0, 1) := by decide +kernel
theorem dX0_canStand_111 : decode cX0_canStand 111 = .ok (.getfield 15, 3) := by decide +kernel
theorem dX0_canStand_114 : decode cX0_canStand 114 = .ok (.getfield 22, 3) := by decide +kernel
theorem dX0_canStand_117 : decode cX0_canStand 117 = .ok (.iload 6, 2) := by decide +kernel
theorem dX0_canStand_119 : decode cX0_canStand 119 = .ok (.iconst 2, 1) := by decide +kernel
theorem dX0_canStand_120 : decode cX0_canStand 120 = .ok (.invokevirtual 46, 3) := by decide +kernel
theorem dX0_canStand_123 : decode cX0_canStand 123 = .ok (.iadd, 1) := by decide +kernel
theorem dX0_canStand_124 : decode cX0_canStand 124 = .ok (.istore_n 3, 1) := by decide +kernel
theorem dX0_canStand_125 : decode cX0_canStand 125 = .ok (.aload_n 0, 1) := by decide +kernel
theorem dX0_canStand_126 : decode cX0_canStand 126 = .ok (.getfield 15, 3) := by decide +kernel
theorem dX0_canStand_129 : decode cX0_canStand 129 = .ok (.getfield 22, 3) := by decide +kernel
theorem dX0_canStand_132 : decode cX0_canStand 132 = .ok (.iload 6, 2) := by decide +kernel
theorem dX0_canStand_134 : decode cX0_canStand 134 = .ok (.iconst 0, 1) := by decide +kernel
theorem dX0_canStand_135 : decode cX0_canStand 135 = .ok (.invokevirtual 46, 3) := by decide +kernel
theorem dX0_canStand_138 : decode cX0_canStand 138 = .ok (.istore 4, 2) := by decide +kernel
theorem dX0_canStand_140 : decode cX0_canStand 140 = .ok (.iinc 5 1, 3) := by decide +kernel
theorem dX0_canStand_143 : decode cX0_canStand 143 = .ok (.goto (-135), 3) := by decide +kernel
theorem dX0_canStand_146 : decode cX0_canStand 146 = .ok (.iconst 1, 1) := by decide +kernel
theorem dX0_canStand_147 : decode cX0_canStand 147 = .ok (.ireturn, 1) := by decide +kernel
theorem dX0_sortByMinute_0 : decode cX0_sortByMinute 0 = .ok (.iconst 0, 1) := by decide +kernel
theorem dX0_sortByMinute_1 : decode cX0_sortByMinute 1 = .ok (.istore_n 1, 1) := by decide +kernel
theorem dX0_sortByMinute_2 : decode cX0_sortByMinute 2 = .ok (.iload_n 1, 1) := by decide +kernel
theorem dX0_sortByMinute_3 : decode cX0_sortByMinute 3 = .ok (.aload_n 0, 1) := by decide +kernel
theorem dX0_sortByMinute_4 : decode cX0_sortByMinute 4 = .ok (.getfield 15, 3) := by decide +kernel
theorem dX0_sortByMinute_7 : decode cX0_sortByMinute 7 = .ok (.getfield 22, 3) := by decide +kernel
theorem dX0_sortByMinute_10 : decode cX0_sortByMinute 10 = .ok (.getfield 28, 3) := by decide +kernel
theorem dX0_sortByMinute_13 : decode cX0_sortByMinute 13 = .ok (.if_icmp .ge 85, 3) := by decide +kernel
theorem dX0_sortByMinute_16 : decode cX0_sortByMinute 16 = .ok (.iload_n 1, 1) := by decide +kernel
theorem dX0_sortByMinute_17 : decode cX0_sortByMinute 17 = .ok (.aload_n 0, 1) := by decide +kernel
theorem dX0_sortByMinute_18 : decode cX0_sortByMinute 18 = .ok (.getfield 9, 3) := by decide +kernel
theorem dX0_sortByMinute_21 : decode cX0_sortByMinute 21 = .ok (.arraylength, 1) := by decide +kernel
theorem dX0_sortByMinute_22 : decode cX0_sortByMinute 22 = .ok (.if_icmp .ge 76, 3) := by decide +kernel
theorem dX0_sortByMinute_25 : decode cX0_sortByMinute 25 = .ok (.iload_n 1, 1) := by decide +kernel
theorem dX0_sortByMinute_26 : decode cX0_sortByMinute 26 = .ok (.istore_n 2, 1) := by decide +kernel
theorem dX0_sortByMinute_27 : decode cX0_sortByMinute 27 = .ok (.iload_n 2, 1) := by decide +kernel
theorem dX0_sortByMinute_28 : decode cX0_sortByMinute 28 = .ok (.ifCond .le 57, 3) := by decide +kernel
theorem dX0_sortByMinute_31 : decode cX0_sortByMinute 31 = .ok (.aload_n 0, 1) := by decide +kernel
theorem dX0_sortByMinute_32 : decode cX0_sortByMinute 32 = .ok (.getfield 15, 3) := by decide +kernel
theorem dX0_sortByMinute_35 : decode cX0_sortByMinute 35 = .ok (.getfield 22, 3) := by decide +kernel
theorem dX0_sortByMinute_38 : decode cX0_sortByMinute 38 = .ok (.aload_n 0, 1) := by decide +kernel
theorem dX0_sortByMinute_39 : decode cX0_sortByMinute 39 = .ok (.getfield 9, 3) := by decide +kernel
theorem dX0_sortByMinute_42 : decode cX0_sortByMinute 42 = .ok (.iload_n 2, 1) := by decide +kernel
theorem dX0_sortByMinute_43 : decode cX0_sortByMinute 43 = .ok (.iconst 1, 1) := by decide +kernel
theorem dX0_sortByMinute_44 : decode cX0_sortByMinute 44 = .ok (.isub, 1) := by decide +kernel
theorem dX0_sortByMinute_45 : decode cX0_sortByMinute 45 = .ok (.iaload, 1) := by decide +kernel
theorem dX0_sortByMinute_46 : decode cX0_sortByMinute 46 = .ok (.iconst 1, 1) := by decide +kernel
theorem dX0_sortByMinute_47 : decode cX0_sortByMinute 47 = .ok (.invokevirtual 46, 3) := by decide +kernel
theorem dX0_sortByMinute_50 : decode cX0_sortByMinute 50 = .ok (.aload_n 0, 1) := by decide +kernel
theorem dX0_sortByMinute_51 : decode cX0_sortByMinute 51 = .ok (.getfield 15, 3) := by decide +kernel
theorem dX0_sortByMinute_54 : decode cX0_sortByMinute 54 = .ok (.getfield 22, 3) := by decide +kernel
theorem dX0_sortByMinute_57 : decode cX0_sortByMinute 57 = .ok (.iload_n 1, 1) := by decide +kernel
theorem dX0_sortByMinute_58 : decode cX0_sortByMinute 58 = .ok (.iconst 1, 1) := by decide +kernel
theorem dX0_sortByMinute_59 : decode cX0_sortByMinute 59 = .ok (.invokevirtual 46, 3) := by decide +kernel
theorem dX0_sortByMinute_62 : decode cX0_sortByMinute 62 = .ok (.if_icmp .le 23, 3) := by decide +kernel
theorem dX0_sortByMinute_65 : decode cX0_sortByMinute 65 = .ok (.aload_n 0, 1) := by decide +kernel
theorem dX0_sortByMinute_66 : decode cX0_sortByMinute 66 = .ok (.getfield 9, 3) := by decide +kernel
theorem dX0_sortByMinute_69 : decode cX0_sortByMinute 69 = .ok (.iload_n 2, 1) := by decide +kernel
theorem dX0_sortByMinute_70 : decode cX0_sortByMinute 70 = .ok (.aload_n 0, 1) := by decide +kernel
theorem dX0_sortByMinute_71 : decode cX0_sortByMinute 71 = .ok (.getfield 9, 3) := by decide +kernel
theorem dX0_sortByMinute_74 : decode cX0_sortByMinute 74 = .ok (.iload_n 2, 1) := by decide +kernel
theorem dX0_sortByMinute_75 : decode cX0_sortByMinute 75 = .ok (.iconst 1, 1) := by decide +kernel
theorem dX0_sortByMinute_76 : decode cX0_sortByMinute 76 = .ok (.isub, 1) := by decide +kernel
theorem dX0_sortByMinute_77 : decode cX0_sortByMinute 77 = .ok (.iaload, 1) := by decide +kernel
theorem dX0_sortByMinute_78 : decode cX0_sortByMinute 78 = .ok (.iastore, 1) := by decide +kernel
theorem dX0_sortByMinute_79 : decode cX0_sortByMinute 79 = .ok (.iinc 2 (-1), 3) := by decide +kernel
theorem dX0_sortByMinute_82 : decode cX0_sortByMinute 82 = .ok (.goto (-55), 3) := by decide +kernel
theorem dX0_sortByMinute_85 : decode cX0_sortByMinute 85 = .ok (.aload_n 0, 1) := by decide +kernel
theorem dX0_sortByMinute_86 : decode cX0_sortByMinute 86 = .ok (.getfield 9, 3) := by decide +kernel
theorem dX0_sortByMinute_89 : decode cX0_sortByMinute 89 = .ok (.iload_n 2, 1) := by decide +kernel
theorem dX0_sortByMinute_90 : decode cX0_sortByMinute 90 = .ok (.iload_n 1, 1) := by decide +kernel
theorem dX0_sortByMinute_91 : decode cX0_sortByMinute 91 = .ok (.iastore, 1) := by decide +kernel
theorem dX0_sortByMinute_92 : decode cX0_sortByMinute 92 = .ok (.iinc 1 1, 3) := by decide +kernel
theorem dX0_sortByMinute_95 : decode cX0_sortByMinute 95 = .ok (.goto (-93), 3) := by decide +kernel
theorem dX0_sortByMinute_98 : decode cX0_sortByMinute 98 = .ok (.return_, 1) := by decide +kernel
theorem dX1_lowest_0 : decode cX1_lowest 0 = .ok (.lconst 1, 1) := by decide +kernel
theorem dX1_lowest_1 : decode cX1_lowest 1 = .ok (.lload_n 0, 1) := by decide +kernel
theorem dX1_lowest_2 : decode cX1_lowest 2 = .ok (.lload_n 2, 1) := by decide +kernel
theorem dX1_lowest_3 : decode cX1_lowest 3 = .ok (.invokestatic 9, 3) := by decide +kernel
theorem dX1_lowest_6 : decode cX1_lowest 6 = .ok (.invokestatic 15, 3) := by decide +kernel
theorem dX1_lowest_9 : decode cX1_lowest 9 = .ok (.lstore 5, 2) := by decide +kernel
theorem dX1_lowest_11 : decode cX1_lowest 11 = .ok (.iload 4, 2) := by decide +kernel
theorem dX1_lowest_13 : decode cX1_lowest 13 = .ok (.ifCond .ne 7, 3) := by decide +kernel
theorem dX1_lowest_16 : decode cX1_lowest 16 = .ok (.lload_n 0, 1) := by decide +kernel
theorem dX1_lowest_17 : decode cX1_lowest 17 = .ok (.goto 4, 3) := by decide +kernel
theorem dX1_lowest_20 : decode cX1_lowest 20 = .ok (.lload_n 2, 1) := by decide +kernel
theorem dX1_lowest_21 : decode cX1_lowest 21 = .ok (.lload 5, 2) := by decide +kernel
theorem dX1_lowest_23 : decode cX1_lowest 23 = .ok (.ldiv, 1) := by decide +kernel
theorem dX1_lowest_24 : decode cX1_lowest 24 = .ok (.lreturn, 1) := by decide +kernel
theorem dX1_hundreds_0 : decode cX1_hundreds 0 = .ok (.bipush 100, 2) := by decide +kernel
theorem dX1_hundreds_2 : decode cX1_hundreds 2 = .ok (.iload_n 0, 1) := by decide +kernel
theorem dX1_hundreds_3 : decode cX1_hundreds 3 = .ok (.invokestatic 20, 3) := by decide +kernel
theorem dX1_hundreds_6 : decode cX1_hundreds 6 = .ok (.lreturn, 1) := by decide +kernel
theorem dX1_delayParts_0 : decode cX1_delayParts 0 = .ok (.lconst 1, 1) := by decide +kernel
theorem dX1_delayParts_1 : decode cX1_delayParts 1 = .ok (.lstore_n 2, 1) := by decide +kernel
theorem dX1_delayParts_2 : decode cX1_delayParts 2 = .ok (.iconst 0, 1) := by decide +kernel
theorem dX1_delayParts_3 : decode cX1_delayParts 3 = .ok (.istore 4, 2) := by decide +kernel
theorem dX1_delayParts_5 : decode cX1_delayParts 5 = .ok (.iload 4, 2) := by decide +kernel
theorem dX1_delayParts_7 : decode cX1_delayParts 7 = .ok (.aload_n 0, 1) := by decide +kernel
theorem dX1_delayParts_8 : decode cX1_delayParts 8 = .ok (.getfield 24, 3) := by decide +kernel
theorem dX1_delayParts_11 : decode cX1_delayParts 11 = .ok (.getfield 30, 3) := by decide +kernel
theorem dX1_delayParts_14 : decode cX1_delayParts 14 = .ok (.if_icmp .ge 45, 3) := by decide +kernel
theorem dX1_delayParts_17 : decode cX1_delayParts 17 = .ok (.aload_n 0, 1) := by decide +kernel
theorem dX1_delayParts_18 : decode cX1_delayParts 18 = .ok (.getfield 24, 3) := by decide +kernel
theorem dX1_delayParts_21 : decode cX1_delayParts 21 = .ok (.iload 4, 2) := by decide +kernel
theorem dX1_delayParts_23 : decode cX1_delayParts 23 = .ok (.iconst 3, 1) := by decide +kernel
theorem dX1_delayParts_24 : decode cX1_delayParts 24 = .ok (.invokevirtual 36, 3) := by decide +kernel
theorem dX1_delayParts_27 : decode cX1_delayParts 27 = .ok (.istore 5, 2) := by decide +kernel
theorem dX1_delayParts_29 : decode cX1_delayParts 29 = .ok (.lload_n 2, 1) := by decide +kernel
theorem dX1_delayParts_30 : decode cX1_delayParts 30 = .ok (.iload_n 1, 1) := by decide +kernel
theorem dX1_delayParts_31 : decode cX1_delayParts 31 = .ok (.iload 4, 2) := by decide +kernel
theorem dX1_delayParts_33 : decode cX1_delayParts 33 = .ok (.invokestatic 40, 3) := by decide +kernel
theorem dX1_delayParts_36 : decode cX1_delayParts 36 = .ok (.ifCond .eq 9, 3) := by decide +kernel
theorem dX1_delayParts_39 : decode cX1_delayParts 39 = .ok (.iload 5, 2) := by decide +kernel
theorem dX1_delayParts_41 : decode cX1_delayParts 41 = .ok (.i2l, 1) := by decide +kernel
theorem dX1_delayParts_42 : decode cX1_delayParts 42 = .ok (.goto 9, 3) := by decide +kernel
theorem dX1_delayParts_45 : decode cX1_delayParts 45 = .ok (.bipush 100, 2) := by decide +kernel
theorem dX1_delayParts_47 : decode cX1_delayParts 47 = .ok (.iload 5, 2) := by decide +kernel
theorem dX1_delayParts_49 : decode cX1_delayParts 49 = .ok (.isub, 1) := by decide +kernel
theorem dX1_delayParts_50 : decode cX1_delayParts 50 = .ok (.i2l, 1) := by decide +kernel
theorem dX1_delayParts_51 : decode cX1_delayParts 51 = .ok (.lmul, 1) := by decide +kernel
theorem dX1_delayParts_52 : decode cX1_delayParts 52 = .ok (.lstore_n 2, 1) := by decide +kernel
theorem dX1_delayParts_53 : decode cX1_delayParts 53 = .ok (.iinc 4 1, 3) := by decide +kernel
theorem dX1_delayParts_56 : decode cX1_delayParts 56 = .ok (.goto (-51), 3) := by decide +kernel
theorem dX1_delayParts_59 : decode cX1_delayParts 59 = .ok (.lload_n 2, 1) := by decide +kernel
theorem dX1_delayParts_60 : decode cX1_delayParts 60 = .ok (.lreturn, 1) := by decide +kernel
theorem dX1_dryParts_0 : decode cX1_dryParts 0 = .ok (.iload_n 1, 1) := by decide +kernel
theorem dX1_dryParts_1 : decode cX1_dryParts 1 = .ok (.iload_n 2, 1) := by decide +kernel
theorem dX1_dryParts_2 : decode cX1_dryParts 2 = .ok (.invokestatic 44, 3) := by decide +kernel
theorem dX1_dryParts_5 : decode cX1_dryParts 5 = .ok (.bipush 100, 2) := by decide +kernel
theorem dX1_dryParts_7 : decode cX1_dryParts 7 = .ok (.iload_n 0, 1) := by decide +kernel
theorem dX1_dryParts_8 : decode cX1_dryParts 8 = .ok (.isub, 1) := by decide +kernel
theorem dX1_dryParts_9 : decode cX1_dryParts 9 = .ok (.iload_n 2, 1) := by decide +kernel
theorem dX1_dryParts_10 : decode cX1_dryParts 10 = .ok (.invokestatic 20, 3) := by decide +kernel
theorem dX1_dryParts_13 : decode cX1_dryParts 13 = .ok (.lmul, 1) := by decide +kernel
theorem dX1_dryParts_14 : decode cX1_dryParts 14 = .ok (.iload_n 0, 1) := by decide +kernel
theorem dX1_dryParts_15 : decode cX1_dryParts 15 = .ok (.iload_n 1, 1) := by decide +kernel
theorem dX1_dryParts_16 : decode cX1_dryParts 16 = .ok (.iload_n 2, 1) := by decide +kernel
theorem dX1_dryParts_17 : decode cX1_dryParts 17 = .ok (.isub, 1) := by decide +kernel
theorem dX1_dryParts_18 : decode cX1_dryParts 18 = .ok (.invokestatic 20, 3) := by decide +kernel
theorem dX1_dryParts_21 : decode cX1_dryParts 21 = .ok (.lmul, 1) := by decide +kernel
theorem dX1_dryParts_22 : decode cX1_dryParts 22 = .ok (.lreturn, 1) := by decide +kernel
theorem dX1_wednesdaysToInsist_0 : decode cX1_wednesdaysToInsist 0 = .ok (.ldc 47, 2) := by decide +kernel
theorem dX1_wednesdaysToInsist_2 : decode cX1_wednesdaysToInsist 2 = .ok (.istore_n 2, 1) := by decide +kernel
theorem dX1_wednesdaysToInsist_3 : decode cX1_wednesdaysToInsist 3 = .ok (.iconst 1, 1) := by decide +kernel
theorem dX1_wednesdaysToInsist_4 : decode cX1_wednesdaysToInsist 4 = .ok (.istore_n 3, 1) := by decide +kernel
theorem dX1_wednesdaysToInsist_5 : decode cX1_wednesdaysToInsist 5 = .ok (.iload_n 3, 1) := by decide +kernel
theorem dX1_wednesdaysToInsist_6 : decode cX1_wednesdaysToInsist 6 = .ok (.bipush 60, 2) := by decide +kernel
theorem dX1_wednesdaysToInsist_8 : decode cX1_wednesdaysToInsist 8 = .ok (.if_icmp .gt 30, 3) := by decide +kernel
theorem dX1_wednesdaysToInsist_11 : decode cX1_wednesdaysToInsist 11 = .ok (.iload_n 2, 1) := by decide +kernel
theorem dX1_wednesdaysToInsist_12 : decode cX1_wednesdaysToInsist 12 = .ok (.iload_n 0, 1) := by decide +kernel
theorem dX1_wednesdaysToInsist_13 : decode cX1_wednesdaysToInsist 13 = .ok (.imul, 1) := by decide +kernel
theorem dX1_wednesdaysToInsist_14 : decode cX1_wednesdaysToInsist 14 = .ok (.bipush 100, 2) := by decide +kernel
theorem dX1_wednesdaysToInsist_16 : decode cX1_wednesdaysToInsist 16 = .ok (.idiv, 1) := by decide +kernel
theorem dX1_wednesdaysToInsist_17 : decode cX1_wednesdaysToInsist 17 = .ok (.istore_n 2, 1) := by decide +kernel
theorem dX1_wednesdaysToInsist_18 : decode cX1_wednesdaysToInsist 18 = .ok (.iload_n 2, 1) := by decide +kernel
theorem dX1_wednesdaysToInsist_19 : decode cX1_wednesdaysToInsist 19 = .ok (.sipush 10000, 3) := by decide +kernel
theorem dX1_wednesdaysToInsist_22 : decode cX1_wednesdaysToInsist 22 = .ok (.bipush 100, 2) := by decide +kernel
theorem dX1_wednesdaysToInsist_24 : decode cX1_wednesdaysToInsist 24 = .ok (.iload_n 1, 1) := by decide +kernel
theorem dX1_wednesdaysToInsist_25 : decode cX1_wednesdaysToInsist 25 = .ok (.isub, 1) := by decide +kernel
theorem dX1_wednesdaysToInsist_26 : decode cX1_wednesdaysToInsist 26 = .ok (.imul, 1) := by decide +kernel
theorem dX1_wednesdaysToInsist_27 : decode cX1_wednesdaysToInsist 27 = .ok (.if_icmp .gt 5, 3) := by decide +kernel
theorem dX1_wednesdaysToInsist_30 : decode cX1_wednesdaysToInsist 30 = .ok (.iload_n 3, 1) := by decide +kernel
theorem dX1_wednesdaysToInsist_31 : decode cX1_wednesdaysToInsist 31 = .ok (.ireturn, 1) := by decide +kernel
theorem dX1_wednesdaysToInsist_32 : decode cX1_wednesdaysToInsist 32 = .ok (.iinc 3 1, 3) := by decide +kernel
theorem dX1_wednesdaysToInsist_35 : decode cX1_wednesdaysToInsist 35 = .ok (.goto (-30), 3) := by decide +kernel
theorem dX1_wednesdaysToInsist_38 : decode cX1_wednesdaysToInsist 38 = .ok (.iconst (-1), 1) := by decide +kernel
theorem dX1_wednesdaysToInsist_39 : decode cX1_wednesdaysToInsist 39 = .ok (.ireturn, 1) := by decide +kernel
theorem dX1_drawnDelays_0 : decode cX1_drawnDelays 0 = .ok (.iload_n 1, 1) := by decide +kernel
theorem dX1_drawnDelays_1 : decode cX1_drawnDelays 1 = .ok (.i2l, 1) := by decide +kernel
theorem dX1_drawnDelays_2 : decode cX1_drawnDelays 2 = .ok (.invokestatic 48, 3) := by decide +kernel
theorem dX1_drawnDelays_5 : decode cX1_drawnDelays 5 = .ok (.lstore_n 2, 1) := by decide +kernel
theorem dX1_drawnDelays_6 : decode cX1_drawnDelays 6 = .ok (.lload_n 2, 1) := by decide +kernel
theorem dX1_drawnDelays_7 : decode cX1_drawnDelays 7 = .ok (.invokestatic 52, 3) := by decide +kernel
theorem dX1_drawnDelays_10 : decode cX1_drawnDelays 10 = .ok (.aload_n 0, 1) := by decide +kernel
theorem dX1_drawnDelays_11 : decode cX1_drawnDelays 11 = .ok (.getfield 56, 3) := by decide +kernel
theorem dX1_drawnDelays_14 : decode cX1_drawnDelays 14 = .ok (.if_icmp .ge 5, 3) := by decide +kernel
theorem dX1_drawnDelays_17 : decode cX1_drawnDelays 17 = .ok (.iconst (-1), 1) := by decide +kernel
theorem dX1_drawnDelays_18 : decode cX1_drawnDelays 18 = .ok (.ireturn, 1) := by decide +kernel
theorem dX1_drawnDelays_19 : decode cX1_drawnDelays 19 = .ok (.iconst 0, 1) := by decide +kernel
theorem dX1_drawnDelays_20 : decode cX1_drawnDelays 20 = .ok (.istore 4, 2) := by decide +kernel
theorem dX1_drawnDelays_22 : decode cX1_drawnDelays 22 = .ok (.iconst 0, 1) := by decide +kernel
theorem dX1_drawnDelays_23 : decode cX1_drawnDelays 23 = .ok (.istore 5, 2) := by decide +kernel
theorem dX1_drawnDelays_25 : decode cX1_drawnDelays 25 = .ok (.iload 5, 2) := by decide +kernel
theorem dX1_drawnDelays_27 : decode cX1_drawnDelays 27 = .ok (.aload_n 0, 1) := by decide +kernel
theorem dX1_drawnDelays_28 : decode cX1_drawnDelays 28 = .ok (.getfield 24, 3) := by decide +kernel
theorem dX1_drawnDelays_31 : decode cX1_drawnDelays 31 = .ok (.getfield 30, 3) := by decide +kernel
theorem dX1_drawnDelays_34 : decode cX1_drawnDelays 34 = .ok (.if_icmp .ge 40, 3) := by decide +kernel
theorem dX1_drawnDelays_37 : decode cX1_drawnDelays 37 = .ok (.lload_n 2, 1) := by decide +kernel
theorem dX1_drawnDelays_38 : decode cX1_drawnDelays 38 = .ok (.invokestatic 48, 3) := by decide +kernel
theorem dX1_drawnDelays_41 : decode cX1_drawnDelays 41 = .ok (.lstore_n 2, 1) := by decide +kernel
theorem dX1_drawnDelays_42 : decode cX1_drawnDelays 42 = .ok (.lload_n 2, 1) := by decide +kernel
theorem dX1_drawnDelays_43 : decode cX1_drawnDelays 43 = .ok (.invokestatic 52, 3) := by decide +kernel
theorem dX1_drawnDelays_46 : decode cX1_drawnDelays 46 = .ok (.aload_n 0, 1) := by decide +kernel
theorem dX1_drawnDelays_47 : decode cX1_drawnDelays 47 = .ok (.getfield 24, 3) := by decide +kernel
theorem dX1_drawnDelays_50 : decode cX1_drawnDelays 50 = .ok (.iload 5, 2) := by decide +kernel
theorem dX1_drawnDelays_52 : decode cX1_drawnDelays 52 = .ok (.iconst 3, 1) := by decide +kernel
theorem dX1_drawnDelays_53 : decode cX1_drawnDelays 53 = .ok (.invokevirtual 36, 3) := by decide +kernel
theorem dX1_drawnDelays_56 : decode cX1_drawnDelays 56 = .ok (.if_icmp .ge 12, 3) := by decide +kernel
theorem dX1_drawnDelays_59 : decode cX1_drawnDelays 59 = .ok (.iload 4, 2) := by decide +kernel
theorem dX1_drawnDelays_61 : decode cX1_drawnDelays 61 = .ok (.iconst 1, 1) := by decide +kernel
theorem dX1_drawnDelays_62 : decode cX1_drawnDelays 62 = .ok (.iload 5, 2) := by decide +kernel
theorem dX1_drawnDelays_64 : decode cX1_drawnDelays 64 = .ok (.ishl, 1) := by decide +kernel
theorem dX1_drawnDelays_65 : decode cX1_drawnDelays 65 = .ok (.ior, 1) := by decide +kernel
theorem dX1_drawnDelays_66 : decode cX1_drawnDelays 66 = .ok (.istore 4, 2) := by decide +kernel
theorem dX1_drawnDelays_68 : decode cX1_drawnDelays 68 = .ok (.iinc 5 1, 3) := by decide +kernel
theorem dX1_drawnDelays_71 : decode cX1_drawnDelays 71 = .ok (.goto (-46), 3) := by decide +kernel
theorem dX1_drawnDelays_74 : decode cX1_drawnDelays 74 = .ok (.iload 4, 2) := by decide +kernel
theorem dX1_drawnDelays_76 : decode cX1_drawnDelays 76 = .ok (.ireturn, 1) := by decide +kernel
theorem dX1_next_0 : decode cX1_next 0 = .ok (.ldc2_w 59, 3) := by decide +kernel
theorem dX1_next_3 : decode cX1_next 3 = .ok (.lload_n 0, 1) := by decide +kernel
theorem dX1_next_4 : decode cX1_next 4 = .ok (.lmul, 1) := by decide +kernel
theorem dX1_next_5 : decode cX1_next 5 = .ok (.ldc2_w 61, 3) := by decide +kernel
theorem dX1_next_8 : decode cX1_next 8 = .ok (.ladd, 1) := by decide +kernel
theorem dX1_next_9 : decode cX1_next 9 = .ok (.ldc2_w 63, 3) := by decide +kernel
theorem dX1_next_12 : decode cX1_next 12 = .ok (.lrem, 1) := by decide +kernel
theorem dX1_next_13 : decode cX1_next 13 = .ok (.lreturn, 1) := by decide +kernel
theorem dX1_draw_0 : decode cX1_draw 0 = .ok (.lload_n 0, 1) := by decide +kernel
theorem dX1_draw_1 : decode cX1_draw 1 = .ok (.ldc2_w 65, 3) := by decide +kernel
theorem dX1_draw_4 : decode cX1_draw 4 = .ok (.ldiv, 1) := by decide +kernel
theorem dX1_draw_5 : decode cX1_draw 5 = .ok (.ldc2_w 67, 3) := by decide +kernel
theorem dX1_draw_8 : decode cX1_draw 8 = .ok (.lrem, 1) := by decide +kernel
theorem dX1_draw_9 : decode cX1_draw 9 = .ok (.l2i, 1) := by decide +kernel
theorem dX1_draw_10 : decode cX1_draw 10 = .ok (.ireturn, 1) := by decide +kernel
theorem dX1_power_0 : decode cX1_power 0 = .ok (.lconst 1, 1) := by decide +kernel
theorem dX1_power_1 : decode cX1_power 1 = .ok (.lstore_n 2, 1) := by decide +kernel
theorem dX1_power_2 : decode cX1_power 2 = .ok (.iconst 0, 1) := by decide +kernel
theorem dX1_power_3 : decode cX1_power 3 = .ok (.istore 4, 2) := by decide +kernel
theorem dX1_power_5 : decode cX1_power 5 = .ok (.iload 4, 2) := by decide +kernel
theorem dX1_power_7 : decode cX1_power 7 = .ok (.iload_n 1, 1) := by decide +kernel
theorem dX1_power_8 : decode cX1_power 8 = .ok (.if_icmp .ge 14, 3) := by decide +kernel
theorem dX1_power_11 : decode cX1_power 11 = .ok (.lload_n 2, 1) := by decide +kernel
theorem dX1_power_12 : decode cX1_power 12 = .ok (.iload_n 0, 1) := by decide +kernel
theorem dX1_power_13 : decode cX1_power 13 = .ok (.i2l, 1) := by decide +kernel
theorem dX1_power_14 : decode cX1_power 14 = .ok (.lmul, 1) := by decide +kernel
theorem dX1_power_15 : decode cX1_power 15 = .ok (.lstore_n 2, 1) := by decide +kernel
theorem dX1_power_16 : decode cX1_power 16 = .ok (.iinc 4 1, 3) := by decide +kernel
theorem dX1_power_19 : decode cX1_power 19 = .ok (.goto (-14), 3) := by decide +kernel
theorem dX1_power_22 : decode cX1_power 22 = .ok (.lload_n 2, 1) := by decide +kernel
theorem dX1_power_23 : decode cX1_power 23 = .ok (.lreturn, 1) := by decide +kernel
theorem dX1_choices_0 : decode cX1_choices 0 = .ok (.lconst 1, 1) := by decide +kernel
theorem dX1_choices_1 : decode cX1_choices 1 = .ok (.lstore_n 2, 1) := by decide +kernel
theorem dX1_choices_2 : decode cX1_choices 2 = .ok (.iconst 1, 1) := by decide +kernel
theorem dX1_choices_3 : decode cX1_choices 3 = .ok (.istore 4, 2) := by decide +kernel
theorem dX1_choices_5 : decode cX1_choices 5 = .ok (.iload 4, 2) := by decide +kernel
theorem dX1_choices_7 : decode cX1_choices 7 = .ok (.iload_n 1, 1) := by decide +kernel
theorem dX1_choices_8 : decode cX1_choices 8 = .ok (.if_icmp .gt 23, 3) := by decide +kernel
theorem dX1_choices_11 : decode cX1_choices 11 = .ok (.lload_n 2, 1) := by decide +kernel
theorem dX1_choices_12 : decode cX1_choices 12 = .ok (.iload_n 0, 1) := by decide +kernel
theorem dX1_choices_13 : decode cX1_choices 13 = .ok (.iload_n 1, 1) := by decide +kernel
theorem dX1_choices_14 : decode cX1_choices 14 = .ok (.isub, 1) := by decide +kernel
theorem dX1_choices_15 : decode cX1_choices 15 = .ok (.iload 4, 2) := by decide +kernel
theorem dX1_choices_17 : decode cX1_choices 17 = .ok (.iadd, 1) := by decide +kernel
theorem dX1_choices_18 : decode cX1_choices 18 = .ok (.i2l, 1) := by decide +kernel
theorem dX1_choices_19 : decode cX1_choices 19 = .ok (.lmul, 1) := by decide +kernel
theorem dX1_choices_20 : decode cX1_choices 20 = .ok (.iload 4, 2) := by decide +kernel
theorem dX1_choices_22 : decode cX1_choices 22 = .ok (.i2l, 1) := by decide +kernel
theorem dX1_choices_23 : decode cX1_choices 23 = .ok (.ldiv, 1) := by decide +kernel
theorem dX1_choices_24 : decode cX1_choices 24 = .ok (.lstore_n 2, 1) := by decide +kernel
theorem dX1_choices_25 : decode cX1_choices 25 = .ok (.iinc 4 1, 3) := by decide +kernel
theorem dX1_choices_28 : decode cX1_choices 28 = .ok (.goto (-23), 3) := by decide +kernel
theorem dX1_choices_31 : decode cX1_choices 31 = .ok (.lload_n 2, 1) := by decide +kernel
theorem dX1_choices_32 : decode cX1_choices 32 = .ok (.lreturn, 1) := by decide +kernel
theorem dX1_commonDivisor_0 : decode cX1_commonDivisor 0 = .ok (.iconst 0, 1) := by decide +kernel
theorem dX1_commonDivisor_1 : decode cX1_commonDivisor 1 = .ok (.istore 4, 2) := by decide +kernel
theorem dX1_commonDivisor_3 : decode cX1_commonDivisor 3 = .ok (.iload 4, 2) := by decide +kernel
theorem dX1_commonDivisor_5 : decode cX1_commonDivisor 5 = .ok (.sipush 200, 3) := by decide +kernel
theorem dX1_commonDivisor_8 : decode cX1_commonDivisor 8 = .ok (.if_icmp .ge 25, 3) := by decide +kernel
theorem dX1_commonDivisor_11 : decode cX1_commonDivisor 11 = .ok (.lload_n 2, 1) := by decide +kernel
theorem dX1_commonDivisor_12 : decode cX1_commonDivisor 12 = .ok (.lconst 0, 1) := by decide +kernel
theorem dX1_commonDivisor_13 : decode cX1_commonDivisor 13 = .ok (.lcmp, 1) := by decide +kernel
theorem dX1_commonDivisor_14 : decode cX1_commonDivisor 14 = .ok (.ifCond .eq 19, 3) := by decide +kernel
theorem dX1_commonDivisor_17 : decode cX1_commonDivisor 17 = .ok (.lload_n 0, 1) := by decide +kernel
theorem dX1_commonDivisor_18 : decode cX1_commonDivisor 18 = .ok (.lload_n 2, 1) := by decide +kernel
theorem dX1_commonDivisor_19 : decode cX1_commonDivisor 19 = .ok (.lrem, 1) := by decide +kernel
theorem dX1_commonDivisor_20 : decode cX1_commonDivisor 20 = .ok (.lstore 5, 2) := by decide +kernel
theorem dX1_commonDivisor_22 : decode cX1_commonDivisor 22 = .ok (.lload_n 2, 1) := by decide +kernel
theorem dX1_commonDivisor_23 : decode cX1_commonDivisor 23 = .ok (.lstore_n 0, 1) := by decide +kernel
theorem dX1_commonDivisor_24 : decode cX1_commonDivisor 24 = .ok (.lload 5, 2) := by decide +kernel
theorem dX1_commonDivisor_26 : decode cX1_commonDivisor 26 = .ok (.lstore_n 2, 1) := by decide +kernel
theorem dX1_commonDivisor_27 : decode cX1_commonDivisor 27 = .ok (.iinc 4 1, 3) := by decide +kernel
theorem dX1_commonDivisor_30 : decode cX1_commonDivisor 30 = .ok (.goto (-27), 3) := by decide +kernel
theorem dX1_commonDivisor_33 : decode cX1_commonDivisor 33 = .ok (.lload_n 0, 1) := by decide +kernel
theorem dX1_commonDivisor_34 : decode cX1_commonDivisor 34 = .ok (.lreturn, 1) := by decide +kernel
theorem dX2_init_0 : decode cX2_init 0 = .ok (.aload_n 0, 1) := by decide +kernel
theorem dX2_init_1 : decode cX2_init 1 = .ok (.invokespecial 3, 3) := by decide +kernel
theorem dX2_init_4 : decode cX2_init 4 = .ok (.aload_n 0, 1) := by decide +kernel
theorem dX2_init_5 : decode cX2_init 5 = .ok (.bipush 61, 2) := by decide +kernel
theorem dX2_init_7 : decode cX2_init 7 = .ok (.newarray .int, 2) := by decide +kernel
theorem dX2_init_9 : decode cX2_init 9 = .ok (.putfield 9, 3) := by decide +kernel
theorem dX2_init_12 : decode cX2_init 12 = .ok (.aload_n 0, 1) := by decide +kernel
theorem dX2_init_13 : decode cX2_init 13 = .ok (.sipush 512, 3) := by decide +kernel
theorem dX2_init_16 : decode cX2_init 16 = .ok (.newarray .int, 2) := by decide +kernel
theorem dX2_init_18 : decode cX2_init 18 = .ok (.putfield 15, 3) := by decide +kernel
theorem dX2_init_21 : decode cX2_init 21 = .ok (.aload_n 0, 1) := by decide +kernel
theorem dX2_init_22 : decode cX2_init 22 = .ok (.sipush 512, 3) := by decide +kernel
theorem dX2_init_25 : decode cX2_init 25 = .ok (.newarray .int, 2) := by decide +kernel
theorem dX2_init_27 : decode cX2_init 27 = .ok (.putfield 18, 3) := by decide +kernel
theorem dX2_init_30 : decode cX2_init 30 = .ok (.aload_n 0, 1) := by decide +kernel
theorem dX2_init_31 : decode cX2_init 31 = .ok (.sipush 512, 3) := by decide +kernel
theorem dX2_init_34 : decode cX2_init 34 = .ok (.newarray .int, 2) := by decide +kernel
theorem dX2_init_36 : decode cX2_init 36 = .ok (.putfield 21, 3) := by decide +kernel
theorem dX2_init_39 : decode cX2_init 39 = .ok (.aload_n 0, 1) := by decide +kernel
theorem dX2_init_40 : decode cX2_init 40 = .ok (.aload_n 1, 1) := by decide +kernel
theorem dX2_init_41 : decode cX2_init 41 = .ok (.putfield 24, 3) := by decide +kernel
theorem dX2_init_44 : decode cX2_init 44 = .ok (.return_, 1) := by decide +kernel
theorem dX2_forget_0 : decode cX2_forget 0 = .ok (.aload_n 0, 1) := by decide +kernel
theorem dX2_forget_1 : decode cX2_forget 1 = .ok (.iconst 0, 1) := by decide +kernel
theorem dX2_forget_2 : decode cX2_forget 2 = .ok (.putfield 28, 3) := by decide +kernel
theorem dX2_forget_5 : decode cX2_forget 5 = .ok (.return_, 1) := by decide +kernel
theorem dX2_follow_0 : decode cX2_follow 0 = .ok (.iconst 0, 1) := by decide +kernel
theorem dX2_follow_1 : decode cX2_follow 1 = .ok (.istore_n 2, 1) := by decide +kernel
theorem dX2_follow_2 : decode cX2_follow 2 = .ok (.aload_n 0, 1) := by decide +kernel
theorem dX2_follow_3 : decode cX2_follow 3 = .ok (.getfield 9, 3) := by decide +kernel
theorem dX2_follow_6 : decode cX2_follow 6 = .ok (.iconst 0, 1) := by decide +kernel
theorem dX2_follow_7 : decode cX2_follow 7 = .ok (.iconst 0, 1) := by decide +kernel
theorem dX2_follow_8 : decode cX2_follow 8 = .ok (.iastore, 1) := by decide +kernel
theorem dX2_follow_9 : decode cX2_follow 9 = .ok (.iconst 0, 1) := by decide +kernel
theorem dX2_follow_10 : decode cX2_follow 10 = .ok (.istore_n 3, 1) := by decide +kernel
theorem dX2_follow_11 : decode cX2_follow 11 = .ok (.iload_n 3, 1) := by decide +kernel
theorem dX2_follow_12 : decode cX2_follow 12 = .ok (.aload_n 0, 1) := by decide +kernel
theorem dX2_follow_13 : decode cX2_follow 13 = .ok (.getfield 24, 3) := by decide +kernel
theorem dX2_follow_16 : decode cX2_follow 16 = .ok (.getfield 32, 3) := by decide +kernel
theorem dX2_follow_19 : decode cX2_follow 19 = .ok (.if_icmp .ge 50, 3) := by decide +kernel
theorem dX2_follow_22 : decode cX2_follow 22 = .ok (.iload_n 3, 1) := by decide +kernel
theorem dX2_follow_23 : decode cX2_follow 23 = .ok (.bipush 60, 2) := by decide +kernel
theorem dX2_follow_25 : decode cX2_follow 25 = .ok (.if_icmp .ge 44, 3) := by decide +kernel
theorem dX2_follow_28 : decode cX2_follow 28 = .ok (.aload_n 0, 1) := by decide +kernel
theorem dX2_follow_29 : decode cX2_follow 29 = .ok (.getfield 24, 3) := by decide +kernel
theorem dX2_follow_32 : decode cX2_follow 32 = .ok (.iload_n 3, 1) := by decide +kernel
theorem dX2_follow_33 : decode cX2_follow 33 = .ok (.invokevirtual 38, 3) := by decide +kernel
theorem dX2_follow_36 : decode cX2_follow 36 = .ok (.ifCond .ne 18, 3) := by decide +kernel
theorem dX2_follow_39 : decode cX2_follow 39 = .ok (.iload_n 2, 1) := by decide +kernel
theorem dX2_follow_40 : decode cX2_follow 40 = .ok (.aload_n 0, 1) := by decide +kernel
theorem dX2_follow_41 : decode cX2_follow 41 = .ok (.getfield 24, 3) := by decide +kernel
theorem dX2_follow_44 : decode cX2_follow 44 = .ok (.iload_n 3, 1) := by decide +kernel
theorem dX2_follow_45 : decode cX2_follow 45 = .ok (.iload_n 1, 1) := by decide +kernel
theorem dX2_follow_46 : decode cX2_follow 46 = .ok (.invokevirtual 42, 3) := by decide +kernel
theorem dX2_follow_49 : decode cX2_follow 49 = .ok (.invokestatic 46, 3) := by decide +kernel
theorem dX2_follow_52 : decode cX2_follow 52 = .ok (.iadd, 1) := by decide +kernel
theorem dX2_follow_53 : decode cX2_follow 53 = .ok (.istore_n 2, 1) := by decide +kernel
theorem dX2_follow_54 : decode cX2_follow 54 = .ok (.aload_n 0, 1) := by decide +kernel
theorem dX2_follow_55 : decode cX2_follow 55 = .ok (.getfield 9, 3) := by decide +kernel
theorem dX2_follow_58 : decode cX2_follow 58 = .ok (.iload_n 3, 1) := by decide +kernel
theorem dX2_follow_59 : decode cX2_follow 59 = .ok (.iconst 1, 1) := by decide +kernel
theorem dX2_follow_60 : decode cX2_follow 60 = .ok (.iadd, 1) := by decide +kernel
theorem dX2_follow_61 : decode cX2_follow 61 = .ok (.iload_n 2, 1) := by decide +kernel
theorem dX2_follow_62 : decode cX2_follow 62 = .ok (.iastore, 1) := by decide +kernel
theorem dX2_follow_63 : decode cX2_follow 63 = .ok (.iinc 3 1, 3) := by decide +kernel
theorem dX2_follow_66 : decode cX2_follow 66 = .ok (.goto (-55), 3) := by decide +kernel
theorem dX2_follow_69 : decode cX2_follow 69 = .ok (.return_, 1) := by decide +kernel
theorem dX2_frontBehind_0 : decode cX2_frontBehind 0 = .ok (.iload_n 1, 1) := by decide +kernel
theorem dX2_frontBehind_1 : decode cX2_frontBehind 1 = .ok (.ifCond .lt 21, 3) := by decide +kernel
theorem dX2_frontBehind_4 : decode cX2_frontBehind 4 = .ok (.iload_n 1, 1) := by decide +kernel
theorem dX2_frontBehind_5 : decode cX2_frontBehind 5 = .ok (.aload_n 0, 1) := by decide +kernel
theorem dX2_frontBehind_6 : decode cX2_frontBehind 6 = .ok (.getfield 9, 3) := by decide +kernel
theorem dX2_frontBehind_9 : decode cX2_frontBehind 9 = .ok (.arraylength, 1) := by decide +kernel
theorem dX2_frontBehind_10 : decode cX2_frontBehind 10 = .ok (.if_icmp .ge 12, 3) := by decide +kernel
theorem dX2_frontBehind_13 : decode cX2_frontBehind 13 = .ok (.aload_n 0, 1) := by decide +kernel
theorem dX2_frontBehind_14 : decode cX2_frontBehind 14 = .ok (.getfield 9, 3) := by decide +kernel
theorem dX2_frontBehind_17 : decode cX2_frontBehind 17 = .ok (.iload_n 1, 1) := by decide +kernel
theorem dX2_frontBehind_18 : decode cX2_frontBehind 18 = .ok (.iaload, 1) := by decide +kernel
theorem dX2_frontBehind_19 : decode cX2_frontBehind 19 = .ok (.goto 4, 3) := by decide +kernel
theorem dX2_frontBehind_22 : decode cX2_frontBehind 22 = .ok (.iconst 0, 1) := by decide +kernel
theorem dX2_frontBehind_23 : decode cX2_frontBehind 23 = .ok (.ireturn, 1) := by decide +kernel
theorem dX2_winnerBy_0 : decode cX2_winnerBy 0 = .ok (.aload_n 0, 1) := by decide +kernel
theorem dX2_winnerBy_1 : decode cX2_winnerBy 1 = .ok (.iload_n 1, 1) := by decide +kernel
theorem dX2_winnerBy_2 : decode cX2_winnerBy 2 = .ok (.invokevirtual 50, 3) := by decide +kernel
theorem dX2_winnerBy_5 : decode cX2_winnerBy 5 = .ok (.aload_n 0, 1) := by decide +kernel
theorem dX2_winnerBy_6 : decode cX2_winnerBy 6 = .ok (.getfield 24, 3) := by decide +kernel
theorem dX2_winnerBy_9 : decode cX2_winnerBy 9 = .ok (.iload_n 1, 1) := by decide +kernel
theorem dX2_winnerBy_10 : decode cX2_winnerBy 10 = .ok (.invokevirtual 54, 3) := by decide +kernel
theorem dX2_winnerBy_13 : decode cX2_winnerBy 13 = .ok (.aload_n 0, 1) := by decide +kernel
theorem dX2_winnerBy_14 : decode cX2_winnerBy 14 = .ok (.aload_n 0, 1) := by decide +kernel
theorem dX2_winnerBy_15 : decode cX2_winnerBy 15 = .ok (.getfield 24, 3) := by decide +kernel
theorem dX2_winnerBy_18 : decode cX2_winnerBy 18 = .ok (.getfield 32, 3) := by decide +kernel
theorem dX2_winnerBy_21 : decode cX2_winnerBy 21 = .ok (.invokevirtual 57, 3) := by decide +kernel
theorem dX2_winnerBy_24 : decode cX2_winnerBy 24 = .ok (.invokestatic 60, 3) := by decide +kernel
theorem dX2_winnerBy_27 : decode cX2_winnerBy 27 = .ok (.ireturn, 1) := by decide +kernel
theorem dX2_peakOf_0 : decode cX2_peakOf 0 = .ok (.iconst 0, 1) := by decide +kernel
theorem dX2_peakOf_1 : decode cX2_peakOf 1 = .ok (.istore_n 2, 1) := by decide +kernel
theorem dX2_peakOf_2 : decode cX2_peakOf 2 = .ok (.iconst 1, 1) := by decide +kernel
theorem dX2_peakOf_3 : decode cX2_peakOf 3 = .ok (.istore_n 3, 1) := by decide +kernel
theorem dX2_peakOf_4 : decode cX2_peakOf 4 = .ok (.iload_n 3, 1) := by decide +kernel
theorem dX2_peakOf_5 : decode cX2_peakOf 5 = .ok (.aload_n 0, 1) := by decide +kernel
theorem dX2_peakOf_6 : decode cX2_peakOf 6 = .ok (.getfield 24, 3) := by decide +kernel
theorem dX2_peakOf_9 : decode cX2_peakOf 9 = .ok (.getfield 32, 3) := by decide +kernel
theorem dX2_peakOf_12 : decode cX2_peakOf 12 = .ok (.if_icmp .gt 32, 3) := by decide +kernel
theorem dX2_peakOf_15 : decode cX2_peakOf 15 = .ok (.iload_n 1, 1) := by decide +kernel
theorem dX2_peakOf_16 : decode cX2_peakOf 16 = .ok (.aload_n 0, 1) := by decide +kernel
theorem dX2_peakOf_17 : decode cX2_peakOf 17 = .ok (.iload_n 3, 1) := by decide +kernel
theorem dX2_peakOf_18 : decode cX2_peakOf 18 = .ok (.invokevirtual 57, 3) := by decide +kernel
theorem dX2_peakOf_21 : decode cX2_peakOf 21 = .ok (.invokestatic 63, 3) := by decide +kernel
theorem dX2_peakOf_24 : decode cX2_peakOf 24 = .ok (.iload_n 1, 1) := by decide +kernel
theorem dX2_peakOf_25 : decode cX2_peakOf 25 = .ok (.aload_n 0, 1) := by decide +kernel
theorem dX2_peakOf_26 : decode cX2_peakOf 26 = .ok (.iload_n 2, 1) := by decide +kernel
theorem dX2_peakOf_27 : decode cX2_peakOf 27 = .ok (.invokevirtual 57, 3) := by decide +kernel
theorem dX2_peakOf_30 : decode cX2_peakOf 30 = .ok (.invokestatic 63, 3) := by decide +kernel
theorem dX2_peakOf_33 : decode cX2_peakOf 33 = .ok (.if_icmp .le 5, 3) := by decide +kernel
theorem dX2_peakOf_36 : decode cX2_peakOf 36 = .ok (.iload_n 3, 1) := by decide +kernel
theorem dX2_peakOf_37 : decode cX2_peakOf 37 = .ok (.istore_n 2, 1) := by decide +kernel
theorem dX2_peakOf_38 : decode cX2_peakOf 38 = .ok (.iinc 3 1, 3) := by decide +kernel
theorem dX2_peakOf_41 : decode cX2_peakOf 41 = .ok (.goto (-37), 3) := by decide +kernel
theorem dX2_peakOf_44 : decode cX2_peakOf 44 = .ok (.iload_n 2, 1) := by decide +kernel
theorem dX2_peakOf_45 : decode cX2_peakOf 45 = .ok (.ireturn, 1) := by decide +kernel
theorem dX2_countSwings_0 : decode cX2_countSwings 0 = .ok (.iconst 0, 1) := by decide +kernel
theorem dX2_countSwings_1 : decode cX2_countSwings 1 = .ok (.istore_n 1, 1) := by decide +kernel
theorem dX2_countSwings_2 : decode cX2_countSwings 2 = .ok (.iconst 0, 1) := by decide +kernel
theorem dX2_countSwings_3 : decode cX2_countSwings 3 = .ok (.istore_n 2, 1) := by decide +kernel
theorem dX2_countSwings_4 : decode cX2_countSwings 4 = .ok (.iconst 1, 1) := by decide +kernel
theorem dX2_countSwings_5 : decode cX2_countSwings 5 = .ok (.istore_n 3, 1) := by decide +kernel
theorem dX2_countSwings_6 : decode cX2_countSwings 6 = .ok (.iload_n 3, 1) := by decide +kernel
theorem dX2_countSwings_7 : decode cX2_countSwings 7 = .ok (.aload_n 0, 1) := by decide +kernel
theorem dX2_countSwings_8 : decode cX2_countSwings 8 = .ok (.getfield 24, 3) := by decide +kernel
theorem dX2_countSwings_11 : decode cX2_countSwings 11 = .ok (.getfield 32, 3) := by decide +kernel
theorem dX2_countSwings_14 : decode cX2_countSwings 14 = .ok (.if_icmp .gt 37, 3) := by decide +kernel
theorem dX2_countSwings_17 : decode cX2_countSwings 17 = .ok (.aload_n 0, 1) := by decide +kernel
theorem dX2_countSwings_18 : decode cX2_countSwings 18 = .ok (.iload_n 3, 1) := by decide +kernel
theorem dX2_countSwings_19 : decode cX2_countSwings 19 = .ok (.invokevirtual 57, 3) := by decide +kernel
theorem dX2_countSwings_22 : decode cX2_countSwings 22 = .ok (.invokestatic 46, 3) := by decide +kernel
theorem dX2_countSwings_25 : decode cX2_countSwings 25 = .ok (.istore 4, 2) := by decide +kernel
theorem dX2_countSwings_27 : decode cX2_countSwings 27 = .ok (.iload 4, 2) := by decide +kernel
theorem dX2_countSwings_29 : decode cX2_countSwings 29 = .ok (.ifCond .eq 16, 3) := by decide +kernel
theorem dX2_countSwings_32 : decode cX2_countSwings 32 = .ok (.iload 4, 2) := by decide +kernel
theorem dX2_countSwings_34 : decode cX2_countSwings 34 = .ok (.iload_n 2, 1) := by decide +kernel
theorem dX2_countSwings_35 : decode cX2_countSwings 35 = .ok (.ineg, 1) := by decide +kernel
theorem dX2_countSwings_36 : decode cX2_countSwings 36 = .ok (.if_icmp .ne 6, 3) := by decide +kernel
theorem dX2_countSwings_39 : decode cX2_countSwings 39 = .ok (.iinc 1 1, 3) := by decide +kernel
theorem dX2_countSwings_42 : decode cX2_countSwings 42 = .ok (.iload 4, 2) := by decide +kernel
theorem dX2_countSwings_44 : decode cX2_countSwings 44 = .ok (.istore_n 2, 1) := by decide +kernel
theorem dX2_countSwings_45 : decode cX2_countSwings 45 = .ok (.iinc 3 1, 3) := by decide +kernel
theorem dX2_countSwings_48 : decode cX2_countSwings 48 = .ok (.goto (-42), 3) := by decide +kernel
theorem dX2_countSwings_51 : decode cX2_countSwings 51 = .ok (.iload_n 1, 1) := by decide +kernel
theorem dX2_countSwings_52 : decode cX2_countSwings 52 = .ok (.ireturn, 1) := by decide +kernel
theorem dX2_farthestFrom_0 : decode cX2_farthestFrom 0 = .ok (.iconst 0, 1) := by decide +kernel
theorem dX2_farthestFrom_1 : decode cX2_farthestFrom 1 = .ok (.istore_n 2, 1) := by decide +kernel
theorem dX2_farthestFrom_2 : decode cX2_farthestFrom 2 = .ok (.iload_n 1, 1) := by decide +kernel
theorem dX2_farthestFrom_3 : decode cX2_farthestFrom 3 = .ok (.iconst 1, 1) := by decide +kernel
theorem dX2_farthestFrom_4 : decode cX2_farthestFrom 4 = .ok (.iadd, 1) := by decide +kernel
theorem dX2_farthestFrom_5 : decode cX2_farthestFrom 5 = .ok (.istore_n 3, 1) := by decide +kernel
theorem dX2_farthestFrom_6 : decode cX2_farthestFrom 6 = .ok (.iload_n 3, 1) := by decide +kernel
theorem dX2_farthestFrom_7 : decode cX2_farthestFrom 7 = .ok (.aload_n 0, 1) := by decide +kernel
theorem dX2_farthestFrom_8 : decode cX2_farthestFrom 8 = .ok (.getfield 24, 3) := by decide +kernel
theorem dX2_farthestFrom_11 : decode cX2_farthestFrom 11 = .ok (.getfield 32, 3) := by decide +kernel
theorem dX2_farthestFrom_14 : decode cX2_farthestFrom 14 = .ok (.if_icmp .gt 28, 3) := by decide +kernel
theorem dX2_farthestFrom_17 : decode cX2_farthestFrom 17 = .ok (.iload_n 2, 1) := by decide +kernel
theorem dX2_farthestFrom_18 : decode cX2_farthestFrom 18 = .ok (.aload_n 0, 1) := by decide +kernel
theorem dX2_farthestFrom_19 : decode cX2_farthestFrom 19 = .ok (.iload_n 3, 1) := by decide +kernel
theorem dX2_farthestFrom_20 : decode cX2_farthestFrom 20 = .ok (.invokevirtual 57, 3) := by decide +kernel
theorem dX2_farthestFrom_23 : decode cX2_farthestFrom 23 = .ok (.aload_n 0, 1) := by decide +kernel
theorem dX2_farthestFrom_24 : decode cX2_farthestFrom 24 = .ok (.iload_n 1, 1) := by decide +kernel
theorem dX2_farthestFrom_25 : decode cX2_farthestFrom 25 = .ok (.invokevirtual 57, 3) := by decide +kernel
theorem dX2_farthestFrom_28 : decode cX2_farthestFrom 28 = .ok (.isub, 1) := by decide +kernel
theorem dX2_farthestFrom_29 : decode cX2_farthestFrom 29 = .ok (.invokestatic 66, 3) := by decide +kernel
theorem dX2_farthestFrom_32 : decode cX2_farthestFrom 32 = .ok (.invokestatic 71, 3) := by decide +kernel
theorem dX2_farthestFrom_35 : decode cX2_farthestFrom 35 = .ok (.istore_n 2, 1) := by decide +kernel
theorem dX2_farthestFrom_36 : decode cX2_farthestFrom 36 = .ok (.iinc 3 1, 3) := by decide +kernel
theorem dX2_farthestFrom_39 : decode cX2_farthestFrom 39 = .ok (.goto (-33), 3) := by decide +kernel
theorem dX2_farthestFrom_42 : decode cX2_farthestFrom 42 = .ok (.iload_n 2, 1) := by decide +kernel
theorem dX2_farthestFrom_43 : decode cX2_farthestFrom 43 = .ok (.ireturn, 1) := by decide +kernel
theorem dX2_treatyEnds_0 : decode cX2_treatyEnds 0 = .ok (.lconst 0, 1) := by decide +kernel
theorem dX2_treatyEnds_1 : decode cX2_treatyEnds 1 = .ok (.lstore_n 1, 1) := by decide +kernel
theorem dX2_treatyEnds_2 : decode cX2_treatyEnds 2 = .ok (.iconst 1, 1) := by decide +kernel
theorem dX2_treatyEnds_3 : decode cX2_treatyEnds 3 = .ok (.istore_n 3, 1) := by decide +kernel
theorem dX2_treatyEnds_4 : decode cX2_treatyEnds 4 = .ok (.iload_n 3, 1) := by decide +kernel
theorem dX2_treatyEnds_5 : decode cX2_treatyEnds 5 = .ok (.aload_n 0, 1) := by decide +kernel
theorem dX2_treatyEnds_6 : decode cX2_treatyEnds 6 = .ok (.getfield 24, 3) := by decide +kernel
theorem dX2_treatyEnds_9 : decode cX2_treatyEnds 9 = .ok (.getfield 32, 3) := by decide +kernel
theorem dX2_treatyEnds_12 : decode cX2_treatyEnds 12 = .ok (.if_icmp .gt 32, 3) := by decide +kernel
theorem dX2_treatyEnds_15 : decode cX2_treatyEnds 15 = .ok (.aload_n 0, 1) := by decide +kernel
theorem dX2_treatyEnds_16 : decode cX2_treatyEnds 16 = .ok (.iload_n 3, 1) := by decide +kernel
theorem dX2_treatyEnds_17 : decode cX2_treatyEnds 17 = .ok (.invokevirtual 74, 3) := by decide +kernel
theorem dX2_treatyEnds_20 : decode cX2_treatyEnds 20 = .ok (.aload_n 0, 1) := by decide +kernel
theorem dX2_treatyEnds_21 : decode cX2_treatyEnds 21 = .ok (.getfield 24, 3) := by decide +kernel
theorem dX2_treatyEnds_24 : decode cX2_treatyEnds 24 = .ok (.getfield 77, 3) := by decide +kernel
theorem dX2_treatyEnds_27 : decode cX2_treatyEnds 27 = .ok (.if_icmp .gt 11, 3) := by decide +kernel
theorem dX2_treatyEnds_30 : decode cX2_treatyEnds 30 = .ok (.lload_n 1, 1) := by decide +kernel
theorem dX2_treatyEnds_31 : decode cX2_treatyEnds 31 = .ok (.lconst 1, 1) := by decide +kernel
theorem dX2_treatyEnds_32 : decode cX2_treatyEnds 32 = .ok (.iload_n 3, 1) := by decide +kernel
theorem dX2_treatyEnds_33 : decode cX2_treatyEnds 33 = .ok (.iconst 1, 1) := by decide +kernel
theorem dX2_treatyEnds_34 : decode cX2_treatyEnds 34 = .ok (.isub, 1) := by decide +kernel
theorem dX2_treatyEnds_35 : decode cX2_treatyEnds 35 = .ok (.lshl, 1) := by decide +kernel
theorem dX2_treatyEnds_36 : decode cX2_treatyEnds 36 = .ok (.lor, 1) := by decide +kernel
theorem dX2_treatyEnds_37 : decode cX2_treatyEnds 37 = .ok (.lstore_n 1, 1) := by decide +kernel
theorem dX2_treatyEnds_38 : decode cX2_treatyEnds 38 = .ok (.iinc 3 1, 3) := by decide +kernel
theorem dX2_treatyEnds_41 : decode cX2_treatyEnds 41 = .ok (.goto (-37), 3) := by decide +kernel
theorem dX2_treatyEnds_44 : decode cX2_treatyEnds 44 = .ok (.lload_n 1, 1) := by decide +kernel
theorem dX2_treatyEnds_45 : decode cX2_treatyEnds 45 = .ok (.lreturn, 1) := by decide +kernel
theorem dX2_goodAtEnd_0 : decode cX2_goodAtEnd 0 = .ok (.iload_n 1, 1) := by decide +kernel
theorem dX2_goodAtEnd_1 : decode cX2_goodAtEnd 1 = .ok (.iload_n 2, 1) := by decide +kernel
theorem dX2_goodAtEnd_2 : decode cX2_goodAtEnd 2 = .ok (.ifCond .lt 19, 3) := by decide +kernel
theorem dX2_goodAtEnd_5 : decode cX2_goodAtEnd 5 = .ok (.iload_n 2, 1) := by decide +kernel
theorem dX2_goodAtEnd_6 : decode cX2_goodAtEnd 6 = .ok (.sipush 512, 3) := by decide +kernel
theorem dX2_goodAtEnd_9 : decode cX2_goodAtEnd 9 = .ok (.if_icmp .ge 12, 3) := by decide +kernel
theorem dX2_goodAtEnd_12 : decode cX2_goodAtEnd 12 = .ok (.aload_n 0, 1) := by decide +kernel
theorem dX2_goodAtEnd_13 : decode cX2_goodAtEnd 13 = .ok (.getfield 18, 3) := by decide +kernel
theorem dX2_goodAtEnd_16 : decode cX2_goodAtEnd 16 = .ok (.iload_n 2, 1) := by decide +kernel
theorem dX2_goodAtEnd_17 : decode cX2_goodAtEnd 17 = .ok (.iaload, 1) := by decide +kernel
theorem dX2_goodAtEnd_18 : decode cX2_goodAtEnd 18 = .ok (.goto 4, 3) := by decide +kernel
theorem dX2_goodAtEnd_21 : decode cX2_goodAtEnd 21 = .ok (.iconst 0, 1) := by decide +kernel
theorem dX2_goodAtEnd_22 : decode cX2_goodAtEnd 22 = .ok (.invokestatic 63, 3) := by decide +kernel
theorem dX2_goodAtEnd_25 : decode cX2_goodAtEnd 25 = .ok (.ireturn, 1) := by decide +kernel
theorem dX2_worstSet_0 : decode cX2_worstSet 0 = .ok (.aload_n 0, 1) := by decide +kernel
theorem dX2_worstSet_1 : decode cX2_worstSet 1 = .ok (.invokevirtual 80, 3) := by decide +kernel
theorem dX2_worstSet_4 : decode cX2_worstSet 4 = .ok (.iconst 0, 1) := by decide +kernel
theorem dX2_worstSet_5 : decode cX2_worstSet 5 = .ok (.istore_n 2, 1) := by decide +kernel
theorem dX2_worstSet_6 : decode cX2_worstSet 6 = .ok (.iconst 1, 1) := by decide +kernel
theorem dX2_worstSet_7 : decode cX2_worstSet 7 = .ok (.istore_n 3, 1) := by decide +kernel
theorem dX2_worstSet_8 : decode cX2_worstSet 8 = .ok (.iload_n 3, 1) := by decide +kernel
theorem dX2_worstSet_9 : decode cX2_worstSet 9 = .ok (.aload_n 0, 1) := by decide +kernel
theorem dX2_worstSet_10 : decode cX2_worstSet 10 = .ok (.getfield 24, 3) := by decide +kernel
theorem dX2_worstSet_13 : decode cX2_worstSet 13 = .ok (.invokevirtual 83, 3) := by decide +kernel
theorem dX2_worstSet_16 : decode cX2_worstSet 16 = .ok (.if_icmp .ge 47, 3) := by decide +kernel
theorem dX2_worstSet_19 : decode cX2_worstSet 19 = .ok (.aload_n 0, 1) := by decide +kernel
theorem dX2_worstSet_20 : decode cX2_worstSet 20 = .ok (.iload_n 1, 1) := by decide +kernel
theorem dX2_worstSet_21 : decode cX2_worstSet 21 = .ok (.iload_n 2, 1) := by decide +kernel
theorem dX2_worstSet_22 : decode cX2_worstSet 22 = .ok (.invokevirtual 87, 3) := by decide +kernel
theorem dX2_worstSet_25 : decode cX2_worstSet 25 = .ok (.aload_n 0, 1) := by decide +kernel
theorem dX2_worstSet_26 : decode cX2_worstSet 26 = .ok (.iload_n 1, 1) := by decide +kernel
theorem dX2_worstSet_27 : decode cX2_worstSet 27 = .ok (.iload_n 3, 1) := by decide +kernel
theorem dX2_worstSet_28 : decode cX2_worstSet 28 = .ok (.invokevirtual 87, 3) := by decide +kernel
theorem dX2_worstSet_31 : decode cX2_worstSet 31 = .ok (.isub, 1) := by decide +kernel
theorem dX2_worstSet_32 : decode cX2_worstSet 32 = .ok (.istore 4, 2) := by decide +kernel
theorem dX2_worstSet_34 : decode cX2_worstSet 34 = .ok (.iload 4, 2) := by decide +kernel
theorem dX2_worstSet_36 : decode cX2_worstSet 36 = .ok (.ifCond .gt 19, 3) := by decide +kernel
theorem dX2_worstSet_39 : decode cX2_worstSet 39 = .ok (.iload 4, 2) := by decide +kernel
theorem dX2_worstSet_41 : decode cX2_worstSet 41 = .ok (.ifCond .ne 16, 3) := by decide +kernel
theorem dX2_worstSet_44 : decode cX2_worstSet 44 = .ok (.iload_n 3, 1) := by decide +kernel
theorem dX2_worstSet_45 : decode cX2_worstSet 45 = .ok (.invokestatic 90, 3) := by decide +kernel
theorem dX2_worstSet_48 : decode cX2_worstSet 48 = .ok (.iload_n 2, 1) := by decide +kernel
theorem dX2_worstSet_49 : decode cX2_worstSet 49 = .ok (.invokestatic 90, 3) := by decide +kernel
theorem dX2_worstSet_52 : decode cX2_worstSet 52 = .ok (.if_icmp .ge 5, 3) := by decide +kernel
theorem dX2_worstSet_55 : decode cX2_worstSet 55 = .ok (.iload_n 3, 1) := by decide +kernel
theorem dX2_worstSet_56 : decode cX2_worstSet 56 = .ok (.istore_n 2, 1) := by decide +kernel
theorem dX2_worstSet_57 : decode cX2_worstSet 57 = .ok (.iinc 3 1, 3) := by decide +kernel
theorem dX2_worstSet_60 : decode cX2_worstSet 60 = .ok (.goto (-52), 3) := by decide +kernel
theorem dX2_worstSet_63 : decode cX2_worstSet 63 = .ok (.iload_n 2, 1) := by decide +kernel
theorem dX2_worstSet_64 : decode cX2_worstSet 64 = .ok (.ireturn, 1) := by decide +kernel
theorem dX2_countWays_0 : decode cX2_countWays 0 = .ok (.aload_n 0, 1) := by decide +kernel
theorem dX2_countWays_1 : decode cX2_countWays 1 = .ok (.invokevirtual 80, 3) := by decide +kernel
theorem dX2_countWays_4 : decode cX2_countWays 4 = .ok (.iconst 0, 1) := by decide +kernel
theorem dX2_countWays_5 : decode cX2_countWays 5 = .ok (.istore_n 2, 1) := by decide +kernel
theorem dX2_countWays_6 : decode cX2_countWays 6 = .ok (.iconst 0, 1) := by decide +kernel
theorem dX2_countWays_7 : decode cX2_countWays 7 = .ok (.istore_n 3, 1) := by decide +kernel
theorem dX2_countWays_8 : decode cX2_countWays 8 = .ok (.iload_n 3, 1) := by decide +kernel
theorem dX2_countWays_9 : decode cX2_countWays 9 = .ok (.aload_n 0, 1) := by decide +kernel
theorem dX2_countWays_10 : decode cX2_countWays 10 = .ok (.getfield 24, 3) := by decide +kernel
theorem dX2_countWays_13 : decode cX2_countWays 13 = .ok (.invokevirtual 83, 3) := by decide +kernel
theorem dX2_countWays_16 : decode cX2_countWays 16 = .ok (.if_icmp .ge 21, 3) := by decide +kernel
theorem dX2_countWays_19 : decode cX2_countWays 19 = .ok (.aload_n 0, 1) := by decide +kernel
theorem dX2_countWays_20 : decode cX2_countWays 20 = .ok (.iload_n 3, 1) := by decide +kernel
theorem dX2_countWays_21 : decode cX2_countWays 21 = .ok (.invokevirtual 95, 3) := by decide +kernel
theorem dX2_countWays_24 : decode cX2_countWays 24 = .ok (.iload_n 1, 1) := by decide +kernel
theorem dX2_countWays_25 : decode cX2_countWays 25 = .ok (.if_icmp .ne 6, 3) := by decide +kernel
theorem dX2_countWays_28 : decode cX2_countWays 28 = .ok (.iinc 2 1, 3) := by decide +kernel
theorem dX2_countWays_31 : decode cX2_countWays 31 = .ok (.iinc 3 1, 3) := by decide +kernel
theorem dX2_countWays_34 : decode cX2_countWays 34 = .ok (.goto (-26), 3) := by decide +kernel
theorem dX2_countWays_37 : decode cX2_countWays 37 = .ok (.iload_n 2, 1) := by decide +kernel
theorem dX2_countWays_38 : decode cX2_countWays 38 = .ok (.ireturn, 1) := by decide +kernel
theorem dX2_idleTrains_0 : decode cX2_idleTrains 0 = .ok (.aload_n 0, 1) := by decide +kernel
theorem dX2_idleTrains_1 : decode cX2_idleTrains 1 = .ok (.invokevirtual 80, 3) := by decide +kernel
theorem dX2_idleTrains_4 : decode cX2_idleTrains 4 = .ok (.iconst 0, 1) := by decide +kernel
theorem dX2_idleTrains_5 : decode cX2_idleTrains 5 = .ok (.istore_n 1, 1) := by decide +kernel
theorem dX2_idleTrains_6 : decode cX2_idleTrains 6 = .ok (.iconst 0, 1) := by decide +kernel
theorem dX2_idleTrains_7 : decode cX2_idleTrains 7 = .ok (.istore_n 2, 1) := by decide +kernel
theorem dX2_idleTrains_8 : decode cX2_idleTrains 8 = .ok (.iload_n 2, 1) := by decide +kernel
theorem dX2_idleTrains_9 : decode cX2_idleTrains 9 = .ok (.aload_n 0, 1) := by decide +kernel
theorem dX2_idleTrains_10 : decode cX2_idleTrains 10 = .ok (.getfield 24, 3) := by decide +kernel
theorem dX2_idleTrains_13 : decode cX2_idleTrains 13 = .ok (.getfield 98, 3) := by decide +kernel
theorem dX2_idleTrains_16 : decode cX2_idleTrains 16 = .ok (.getfield 102, 3) := by decide +kernel
theorem dX2_idleTrains_19 : decode cX2_idleTrains 19 = .ok (.if_icmp .ge 25, 3) := by decide +kernel
theorem dX2_idleTrains_22 : decode cX2_idleTrains 22 = .ok (.aload_n 0, 1) := by decide +kernel
theorem dX2_idleTrains_23 : decode cX2_idleTrains 23 = .ok (.iconst 1, 1) := by decide +kernel
theorem dX2_idleTrains_24 : decode cX2_idleTrains 24 = .ok (.iload_n 2, 1) := by decide +kernel
theorem dX2_idleTrains_25 : decode cX2_idleTrains 25 = .ok (.ishl, 1) := by decide +kernel
theorem dX2_idleTrains_26 : decode cX2_idleTrains 26 = .ok (.invokevirtual 107, 3) := by decide +kernel
theorem dX2_idleTrains_29 : decode cX2_idleTrains 29 = .ok (.ifCond .eq 9, 3) := by decide +kernel
theorem dX2_idleTrains_32 : decode cX2_idleTrains 32 = .ok (.iload_n 1, 1) := by decide +kernel
theorem dX2_idleTrains_33 : decode cX2_idleTrains 33 = .ok (.iconst 1, 1) := by decide +kernel
theorem dX2_idleTrains_34 : decode cX2_idleTrains 34 = .ok (.iload_n 2, 1) := by decide +kernel
theorem dX2_idleTrains_35 : decode cX2_idleTrains 35 = .ok (.ishl, 1) := by decide +kernel
theorem dX2_idleTrains_36 : decode cX2_idleTrains 36 = .ok (.ior, 1) := by decide +kernel
theorem dX2_idleTrains_37 : decode cX2_idleTrains 37 = .ok (.istore_n 1, 1) := by decide +kernel
theorem dX2_idleTrains_38 : decode cX2_idleTrains 38 = .ok (.iinc 2 1, 3) := by decide +kernel
theorem dX2_idleTrains_41 : decode cX2_idleTrains 41 = .ok (.goto (-33), 3) := by decide +kernel
theorem dX2_idleTrains_44 : decode cX2_idleTrains 44 = .ok (.iload_n 1, 1) := by decide +kernel
theorem dX2_idleTrains_45 : decode cX2_idleTrains 45 = .ok (.ireturn, 1) := by decide +kernel
theorem dX2_winningParts_0 : decode cX2_winningParts 0 = .ok (.aload_n 0, 1) := by decide +kernel
theorem dX2_winningParts_1 : decode cX2_winningParts 1 = .ok (.invokevirtual 80, 3) := by decide +kernel
theorem dX2_winningParts_4 : decode cX2_winningParts 4 = .ok (.lconst 0, 1) := by decide +kernel
theorem dX2_winningParts_5 : decode cX2_winningParts 5 = .ok (.lstore_n 2, 1) := by decide +kernel
theorem dX2_winningParts_6 : decode cX2_winningParts 6 = .ok (.iconst 0, 1) := by decide +kernel
theorem dX2_winningParts_7 : decode cX2_winningParts 7 = .ok (.istore 4, 2) := by decide +kernel
theorem dX2_winningParts_9 : decode cX2_winningParts 9 = .ok (.iload 4, 2) := by decide +kernel
theorem dX2_winningParts_11 : decode cX2_winningParts 11 = .ok (.aload_n 0, 1) := by decide +kernel
theorem dX2_winningParts_12 : decode cX2_winningParts 12 = .ok (.getfield 24, 3) := by decide +kernel
theorem dX2_winningParts_15 : decode cX2_winningParts 15 = .ok (.invokevirtual 83, 3) := by decide +kernel
theorem dX2_winningParts_18 : decode cX2_winningParts 18 = .ok (.if_icmp .ge 31, 3) := by decide +kernel
theorem dX2_winningParts_21 : decode cX2_winningParts 21 = .ok (.aload_n 0, 1) := by decide +kernel
theorem dX2_winningParts_22 : decode cX2_winningParts 22 = .ok (.iload 4, 2) := by decide +kernel
theorem dX2_winningParts_24 : decode cX2_winningParts 24 = .ok (.invokevirtual 95, 3) := by decide +kernel
theorem dX2_winningParts_27 : decode cX2_winningParts 27 = .ok (.iload_n 1, 1) := by decide +kernel
theorem dX2_winningParts_28 : decode cX2_winningParts 28 = .ok (.if_icmp .ne 15, 3) := by decide +kernel
theorem dX2_winningParts_31 : decode cX2_winningParts 31 = .ok (.lload_n 2, 1) := by decide +kernel
theorem dX2_winningParts_32 : decode cX2_winningParts 32 = .ok (.aload_n 0, 1) := by decide +kernel
theorem dX2_winningParts_33 : decode cX2_winningParts 33 = .ok (.getfield 24, 3) := by decide +kernel
theorem dX2_winningParts_36 : decode cX2_winningParts 36 = .ok (.iload 4, 2) := by decide +kernel
theorem dX2_winningParts_38 : decode cX2_winningParts 38 = .ok (.invokestatic 110, 3) := by decide +kernel
theorem dX2_winningParts_41 : decode cX2_winningParts 41 = .ok (.ladd, 1) := by decide +kernel
theorem dX2_winningParts_42 : decode cX2_winningParts 42 = .ok (.lstore_n 2, 1) := by decide +kernel
theorem dX2_winningParts_43 : decode cX2_winningParts 43 = .ok (.iinc 4 1, 3) := by decide +kernel
theorem dX2_winningParts_46 : decode cX2_winningParts 46 = .ok (.goto (-37), 3) := by decide +kernel
theorem dX2_winningParts_49 : decode cX2_winningParts 49 = .ok (.lload_n 2, 1) := by decide +kernel
theorem dX2_winningParts_50 : decode cX2_winningParts 50 = .ok (.lreturn, 1) := by decide +kernel
theorem dX2_isIdle_0 : decode cX2_isIdle 0 = .ok (.iconst 0, 1) := by decide +kernel
theorem dX2_isIdle_1 : decode cX2_isIdle 1 = .ok (.istore_n 2, 1) := by decide +kernel
theorem dX2_isIdle_2 : decode cX2_isIdle 2 = .ok (.iload_n 2, 1) := by decide +kernel
theorem dX2_isIdle_3 : decode cX2_isIdle 3 = .ok (.aload_n 0, 1) := by decide +kernel
theorem dX2_isIdle_4 : decode cX2_isIdle 4 = .ok (.getfield 24, 3) := by decide +kernel
theorem dX2_isIdle_7 : decode cX2_isIdle 7 = .ok (.invokevirtual 83, 3) := by decide +kernel
theorem dX2_isIdle_10 : decode cX2_isIdle 10 = .ok (.if_icmp .ge 32, 3) := by decide +kernel
theorem dX2_isIdle_13 : decode cX2_isIdle 13 = .ok (.iload_n 2, 1) := by decide +kernel
theorem dX2_isIdle_14 : decode cX2_isIdle 14 = .ok (.iload_n 1, 1) := by decide +kernel
theorem dX2_isIdle_15 : decode cX2_isIdle 15 = .ok (.iand, 1) := by decide +kernel
theorem dX2_isIdle_16 : decode cX2_isIdle 16 = .ok (.ifCond .ne 20, 3) := by decide +kernel
theorem dX2_isIdle_19 : decode cX2_isIdle 19 = .ok (.aload_n 0, 1) := by decide +kernel
theorem dX2_isIdle_20 : decode cX2_isIdle 20 = .ok (.iload_n 2, 1) := by decide +kernel
theorem dX2_isIdle_21 : decode cX2_isIdle 21 = .ok (.invokevirtual 95, 3) := by decide +kernel
theorem dX2_isIdle_24 : decode cX2_isIdle 24 = .ok (.aload_n 0, 1) := by decide +kernel
theorem dX2_isIdle_25 : decode cX2_isIdle 25 = .ok (.iload_n 2, 1) := by decide +kernel
theorem dX2_isIdle_26 : decode cX2_isIdle 26 = .ok (.iload_n 1, 1) := by decide +kernel
theorem dX2_isIdle_27 : decode cX2_isIdle 27 = .ok (.ior, 1) := by decide +kernel
theorem dX2_isIdle_28 : decode cX2_isIdle 28 = .ok (.invokevirtual 95, 3) := by decide +kernel
theorem dX2_isIdle_31 : decode cX2_isIdle 31 = .ok (.if_icmp .eq 5, 3) := by decide +kernel
theorem dX2_isIdle_34 : decode cX2_isIdle 34 = .ok (.iconst 0, 1) := by decide +kernel
theorem dX2_isIdle_35 : decode cX2_isIdle 35 = .ok (.ireturn, 1) := by decide +kernel
theorem dX2_isIdle_36 : decode cX2_isIdle 36 = .ok (.iinc 2 1, 3) := by decide +kernel
theorem dX2_isIdle_39 : decode cX2_isIdle 39 = .ok (.goto (-37), 3) := by decide +kernel
theorem dX2_isIdle_42 : decode cX2_isIdle 42 = .ok (.iconst 1, 1) := by decide +kernel
theorem dX2_isIdle_43 : decode cX2_isIdle 43 = .ok (.ireturn, 1) := by decide +kernel
theorem dX2_reckon_0 : decode cX2_reckon 0 = .ok (.aload_n 0, 1) := by decide +kernel
theorem dX2_reckon_1 : decode cX2_reckon 1 = .ok (.getfield 28, 3) := by decide +kernel
theorem dX2_reckon_4 : decode cX2_reckon 4 = .ok (.ifCond .eq 4, 3) := by decide +kernel
theorem dX2_reckon_7 : decode cX2_reckon 7 = .ok (.return_, 1) := by decide +kernel
theorem dX2_reckon_8 : decode cX2_reckon 8 = .ok (.aload_n 0, 1) := by decide +kernel
theorem dX2_reckon_9 : decode cX2_reckon 9 = .ok (.getfield 18, 3) := by decide +kernel
theorem dX2_reckon_12 : decode cX2_reckon 12 = .ok (.iconst 0, 1) := by decide +kernel
theorem dX2_reckon_13 : decode cX2_reckon 13 = .ok (.invokestatic 116, 3) := by decide +kernel
theorem dX2_reckon_16 : decode cX2_reckon 16 = .ok (.iconst 0, 1) := by decide +kernel
theorem dX2_reckon_17 : decode cX2_reckon 17 = .ok (.istore_n 1, 1) := by decide +kernel
theorem dX2_reckon_18 : decode cX2_reckon 18 = .ok (.iconst 0, 1) := by decide +kernel
theorem dX2_reckon_19 : decode cX2_reckon 19 = .ok (.istore_n 2, 1) := by decide +kernel
theorem dX2_reckon_20 : decode cX2_reckon 20 = .ok (.iload_n 2, 1) := by decide +kernel
theorem dX2_reckon_21 : decode cX2_reckon 21 = .ok (.aload_n 0, 1) := by decide +kernel
theorem dX2_reckon_22 : decode cX2_reckon 22 = .ok (.getfield 24, 3) := by decide +kernel
theorem dX2_reckon_25 : decode cX2_reckon 25 = .ok (.getfield 32, 3) := by decide +kernel
theorem dX2_reckon_28 : decode cX2_reckon 28 = .ok (.if_icmp .ge 49, 3) := by decide +kernel
theorem dX2_reckon_31 : decode cX2_reckon 31 = .ok (.iload_n 2, 1) := by decide +kernel
theorem dX2_reckon_32 : decode cX2_reckon 32 = .ok (.ifCond .eq 11, 3) := by decide +kernel
theorem dX2_reckon_35 : decode cX2_reckon 35 = .ok (.aload_n 0, 1) := by decide +kernel
theorem dX2_reckon_36 : decode cX2_reckon 36 = .ok (.iload_n 2, 1) := by decide +kernel
theorem dX2_reckon_37 : decode cX2_reckon 37 = .ok (.invokevirtual 122, 3) := by decide +kernel
theorem dX2_reckon_40 : decode cX2_reckon 40 = .ok (.ifCond .eq 17, 3) := by decide +kernel
theorem dX2_reckon_43 : decode cX2_reckon 43 = .ok (.aload_n 0, 1) := by decide +kernel
theorem dX2_reckon_44 : decode cX2_reckon 44 = .ok (.iload_n 1, 1) := by decide +kernel
theorem dX2_reckon_45 : decode cX2_reckon 45 = .ok (.invokevirtual 125, 3) := by decide +kernel
theorem dX2_reckon_48 : decode cX2_reckon 48 = .ok (.iconst 0, 1) := by decide +kernel
theorem dX2_reckon_49 : decode cX2_reckon 49 = .ok (.istore_n 1, 1) := by decide +kernel
theorem dX2_reckon_50 : decode cX2_reckon 50 = .ok (.aload_n 0, 1) := by decide +kernel
theorem dX2_reckon_51 : decode cX2_reckon 51 = .ok (.iload_n 2, 1) := by decide +kernel
theorem dX2_reckon_52 : decode cX2_reckon 52 = .ok (.iconst 1, 1) := by decide +kernel
theorem dX2_reckon_53 : decode cX2_reckon 53 = .ok (.iconst (-1), 1) := by decide +kernel
theorem dX2_reckon_54 : decode cX2_reckon 54 = .ok (.invokevirtual 128, 3) := by decide +kernel
theorem dX2_reckon_57 : decode cX2_reckon 57 = .ok (.aload_n 0, 1) := by decide +kernel
theorem dX2_reckon_58 : decode cX2_reckon 58 = .ok (.getfield 24, 3) := by decide +kernel
theorem dX2_reckon_61 : decode cX2_reckon 61 = .ok (.iload_n 2, 1) := by decide +kernel
theorem dX2_reckon_62 : decode cX2_reckon 62 = .ok (.invokevirtual 38, 3) := by decide +kernel
theorem dX2_reckon_65 : decode cX2_reckon 65 = .ok (.ifCond .ne 6, 3) := by decide +kernel
theorem dX2_reckon_68 : decode cX2_reckon 68 = .ok (.iinc 1 1, 3) := by decide +kernel
theorem dX2_reckon_71 : decode cX2_reckon 71 = .ok (.iinc 2 1, 3) := by decide +kernel
theorem dX2_reckon_74 : decode cX2_reckon 74 = .ok (.goto (-54), 3) := by decide +kernel
theorem dX2_reckon_77 : decode cX2_reckon 77 = .ok (.aload_n 0, 1) := by decide +kernel
theorem dX2_reckon_78 : decode cX2_reckon 78 = .ok (.iload_n 1, 1) := by decide +kernel
theorem dX2_reckon_79 : decode cX2_reckon 79 = .ok (.invokevirtual 125, 3) := by decide +kernel
theorem dX2_reckon_82 : decode cX2_reckon 82 = .ok (.aload_n 0, 1) := by decide +kernel
theorem dX2_reckon_83 : decode cX2_reckon 83 = .ok (.invokevirtual 132, 3) := by decide +kernel
theorem dX2_reckon_86 : decode cX2_reckon 86 = .ok (.aload_n 0, 1) := by decide +kernel
theorem dX2_reckon_87 : decode cX2_reckon 87 = .ok (.iconst 1, 1) := by decide +kernel
theorem dX2_reckon_88 : decode cX2_reckon 88 = .ok (.putfield 28, 3) := by decide +kernel
theorem dX2_reckon_91 : decode cX2_reckon 91 = .ok (.return_, 1) := by decide +kernel
theorem dX2_isArrival_0 : decode cX2_isArrival 0 = .ok (.aload_n 0, 1) := by decide +kernel
theorem dX2_isArrival_1 : decode cX2_isArrival 1 = .ok (.getfield 24, 3) := by decide +kernel
theorem dX2_isArrival_4 : decode cX2_isArrival 4 = .ok (.iload_n 1, 1) := by decide +kernel
theorem dX2_isArrival_5 : decode cX2_isArrival 5 = .ok (.iconst 0, 1) := by decide +kernel
theorem dX2_isArrival_6 : decode cX2_isArrival 6 = .ok (.invokevirtual 135, 3) := by decide +kernel
theorem dX2_isArrival_9 : decode cX2_isArrival 9 = .ok (.aload_n 0, 1) := by decide +kernel
theorem dX2_isArrival_10 : decode cX2_isArrival 10 = .ok (.getfield 24, 3) := by decide +kernel
theorem dX2_isArrival_13 : decode cX2_isArrival 13 = .ok (.iload_n 1, 1) := by decide +kernel
theorem dX2_isArrival_14 : decode cX2_isArrival 14 = .ok (.aload_n 0, 1) := by decide +kernel
theorem dX2_isArrival_15 : decode cX2_isArrival 15 = .ok (.getfield 24, 3) := by decide +kernel
theorem dX2_isArrival_18 : decode cX2_isArrival 18 = .ok (.invokevirtual 83, 3) := by decide +kernel
theorem dX2_isArrival_21 : decode cX2_isArrival 21 = .ok (.iconst 1, 1) := by decide +kernel
theorem dX2_isArrival_22 : decode cX2_isArrival 22 = .ok (.isub, 1) := by decide +kernel
theorem dX2_isArrival_23 : decode cX2_isArrival 23 = .ok (.invokevirtual 135, 3) := by decide +kernel
theorem dX2_isArrival_26 : decode cX2_isArrival 26 = .ok (.ior, 1) := by decide +kernel
theorem dX2_isArrival_27 : decode cX2_isArrival 27 = .ok (.ifCond .eq 7, 3) := by decide +kernel
theorem dX2_isArrival_30 : decode cX2_isArrival 30 = .ok (.iconst 1, 1) := by decide +kernel
theorem dX2_isArrival_31 : decode cX2_isArrival 31 = .ok (.goto 4, 3) := by decide +kernel
theorem dX2_isArrival_34 : decode cX2_isArrival 34 = .ok (.iconst 0, 1) := by decide +kernel
theorem dX2_isArrival_35 : decode cX2_isArrival 35 = .ok (.ireturn, 1) := by decide +kernel
theorem dX2_takeMen_0 : decode cX2_takeMen 0 = .ok (.aload_n 0, 1) := by decide +kernel
theorem dX2_takeMen_1 : decode cX2_takeMen 1 = .ok (.getfield 15, 3) := by decide +kernel
theorem dX2_takeMen_4 : decode cX2_takeMen 4 = .ok (.iconst 0, 1) := by decide +kernel
theorem dX2_takeMen_5 : decode cX2_takeMen 5 = .ok (.iload_n 2, 1) := by decide +kernel
theorem dX2_takeMen_6 : decode cX2_takeMen 6 = .ok (.aload_n 0, 1) := by decide +kernel
theorem dX2_takeMen_7 : decode cX2_takeMen 7 = .ok (.getfield 24, 3) := by decide +kernel
theorem dX2_takeMen_10 : decode cX2_takeMen 10 = .ok (.iconst 0, 1) := by decide +kernel
theorem dX2_takeMen_11 : decode cX2_takeMen 11 = .ok (.iload_n 1, 1) := by decide +kernel
theorem dX2_takeMen_12 : decode cX2_takeMen 12 = .ok (.iconst 0, 1) := by decide +kernel
theorem dX2_takeMen_13 : decode cX2_takeMen 13 = .ok (.invokevirtual 138, 3) := by decide +kernel
theorem dX2_takeMen_16 : decode cX2_takeMen 16 = .ok (.imul, 1) := by decide +kernel
theorem dX2_takeMen_17 : decode cX2_takeMen 17 = .ok (.iload_n 3, 1) := by decide +kernel
theorem dX2_takeMen_18 : decode cX2_takeMen 18 = .ok (.aload_n 0, 1) := by decide +kernel
theorem dX2_takeMen_19 : decode cX2_takeMen 19 = .ok (.getfield 24, 3) := by decide +kernel
theorem dX2_takeMen_22 : decode cX2_takeMen 22 = .ok (.iconst 1, 1) := by decide +kernel
theorem dX2_takeMen_23 : decode cX2_takeMen 23 = .ok (.iload_n 1, 1) := by decide +kernel
theorem dX2_takeMen_24 : decode cX2_takeMen 24 = .ok (.iconst 0, 1) := by decide +kernel
theorem dX2_takeMen_25 : decode cX2_takeMen 25 = .ok (.invokevirtual 138, 3) := by decide +kernel
theorem dX2_takeMen_28 : decode cX2_takeMen 28 = .ok (.imul, 1) := by decide +kernel
theorem dX2_takeMen_29 : decode cX2_takeMen 29 = .ok (.iadd, 1) := by decide +kernel
theorem dX2_takeMen_30 : decode cX2_takeMen 30 = .ok (.iastore, 1) := by decide +kernel
theorem dX2_takeMen_31 : decode cX2_takeMen 31 = .ok (.iconst 0, 1) := by decide +kernel
theorem dX2_takeMen_32 : decode cX2_takeMen 32 = .ok (.istore 4, 2) := by decide +kernel
theorem dX2_takeMen_34 : decode cX2_takeMen 34 = .ok (.iload 4, 2) := by decide +kernel
theorem dX2_takeMen_36 : decode cX2_takeMen 36 = .ok (.aload_n 0, 1) := by decide +kernel
theorem dX2_takeMen_37 : decode cX2_takeMen 37 = .ok (.getfield 24, 3) := by decide +kernel
theorem dX2_takeMen_40 : decode cX2_takeMen 40 = .ok (.getfield 98, 3) := by decide +kernel
theorem dX2_takeMen_43 : decode cX2_takeMen 43 = .ok (.getfield 102, 3) := by decide +kernel
theorem dX2_takeMen_46 : decode cX2_takeMen 46 = .ok (.if_icmp .ge 55, 3) := by decide +kernel
theorem dX2_takeMen_49 : decode cX2_takeMen 49 = .ok (.aload_n 0, 1) := by decide +kernel
theorem dX2_takeMen_50 : decode cX2_takeMen 50 = .ok (.getfield 24, 3) := by decide +kernel
theorem dX2_takeMen_53 : decode cX2_takeMen 53 = .ok (.getfield 98, 3) := by decide +kernel
theorem dX2_takeMen_56 : decode cX2_takeMen 56 = .ok (.iload 4, 2) := by decide +kernel
theorem dX2_takeMen_58 : decode cX2_takeMen 58 = .ok (.iconst 0, 1) := by decide +kernel
theorem dX2_takeMen_59 : decode cX2_takeMen 59 = .ok (.invokevirtual 142, 3) := by decide +kernel
theorem dX2_takeMen_62 : decode cX2_takeMen 62 = .ok (.ifCond .ne 7, 3) := by decide +kernel
theorem dX2_takeMen_65 : decode cX2_takeMen 65 = .ok (.iload_n 2, 1) := by decide +kernel
theorem dX2_takeMen_66 : decode cX2_takeMen 66 = .ok (.goto 4, 3) := by decide +kernel
theorem dX2_takeMen_69 : decode cX2_takeMen 69 = .ok (.iload_n 3, 1) := by decide +kernel
theorem dX2_takeMen_70 : decode cX2_takeMen 70 = .ok (.istore 5, 2) := by decide +kernel
theorem dX2_takeMen_72 : decode cX2_takeMen 72 = .ok (.aload_n 0, 1) := by decide +kernel
theorem dX2_takeMen_73 : decode cX2_takeMen 73 = .ok (.getfield 15, 3) := by decide +kernel
theorem dX2_takeMen_76 : decode cX2_takeMen 76 = .ok (.iload 4, 2) := by decide +kernel
theorem dX2_takeMen_78 : decode cX2_takeMen 78 = .ok (.iload 5, 2) := by decide +kernel
theorem dX2_takeMen_80 : decode cX2_takeMen 80 = .ok (.ineg, 1) := by decide +kernel
theorem dX2_takeMen_81 : decode cX2_takeMen 81 = .ok (.aload_n 0, 1) := by decide +kernel
theorem dX2_takeMen_82 : decode cX2_takeMen 82 = .ok (.getfield 24, 3) := by decide +kernel
theorem dX2_takeMen_85 : decode cX2_takeMen 85 = .ok (.iload 4, 2) := by decide +kernel
theorem dX2_takeMen_87 : decode cX2_takeMen 87 = .ok (.iload_n 1, 1) := by decide +kernel
theorem dX2_takeMen_88 : decode cX2_takeMen 88 = .ok (.invokevirtual 145, 3) := by decide +kernel
theorem dX2_takeMen_91 : decode cX2_takeMen 91 = .ok (.imul, 1) := by decide +kernel
theorem dX2_takeMen_92 : decode cX2_takeMen 92 = .ok (.invokestatic 148, 3) := by decide +kernel
theorem dX2_takeMen_95 : decode cX2_takeMen 95 = .ok (.iinc 4 1, 3) := by decide +kernel
theorem dX2_takeMen_98 : decode cX2_takeMen 98 = .ok (.goto (-64), 3) := by decide +kernel
theorem dX2_takeMen_101 : decode cX2_takeMen 101 = .ok (.return_, 1) := by decide +kernel
theorem dX2_moveEnds_0 : decode cX2_moveEnds 0 = .ok (.iconst 0, 1) := by decide +kernel
theorem dX2_moveEnds_1 : decode cX2_moveEnds 1 = .ok (.istore_n 2, 1) := by decide +kernel
theorem dX2_moveEnds_2 : decode cX2_moveEnds 2 = .ok (.iload_n 2, 1) := by decide +kernel
theorem dX2_moveEnds_3 : decode cX2_moveEnds 3 = .ok (.aload_n 0, 1) := by decide +kernel
theorem dX2_moveEnds_4 : decode cX2_moveEnds 4 = .ok (.getfield 24, 3) := by decide +kernel
theorem dX2_moveEnds_7 : decode cX2_moveEnds 7 = .ok (.invokevirtual 83, 3) := by decide +kernel
theorem dX2_moveEnds_10 : decode cX2_moveEnds 10 = .ok (.if_icmp .ge 29, 3) := by decide +kernel
theorem dX2_moveEnds_13 : decode cX2_moveEnds 13 = .ok (.aload_n 0, 1) := by decide +kernel
theorem dX2_moveEnds_14 : decode cX2_moveEnds 14 = .ok (.getfield 18, 3) := by decide +kernel
theorem dX2_moveEnds_17 : decode cX2_moveEnds 17 = .ok (.iload_n 2, 1) := by decide +kernel
theorem dX2_moveEnds_18 : decode cX2_moveEnds 18 = .ok (.dup2, 1) := by decide +kernel
theorem dX2_moveEnds_19 : decode cX2_moveEnds 19 = .ok (.iaload, 1) := by decide +kernel
theorem dX2_moveEnds_20 : decode cX2_moveEnds 20 = .ok (.iload_n 1, 1) := by decide +kernel
theorem dX2_moveEnds_21 : decode cX2_moveEnds 21 = .ok (.aload_n 0, 1) := by decide +kernel
theorem dX2_moveEnds_22 : decode cX2_moveEnds 22 = .ok (.getfield 15, 3) := by decide +kernel
theorem dX2_moveEnds_25 : decode cX2_moveEnds 25 = .ok (.iload_n 2, 1) := by decide +kernel
theorem dX2_moveEnds_26 : decode cX2_moveEnds 26 = .ok (.iaload, 1) := by decide +kernel
theorem dX2_moveEnds_27 : decode cX2_moveEnds 27 = .ok (.invokestatic 46, 3) := by decide +kernel
theorem dX2_moveEnds_30 : decode cX2_moveEnds 30 = .ok (.imul, 1) := by decide +kernel
theorem dX2_moveEnds_31 : decode cX2_moveEnds 31 = .ok (.iadd, 1) := by decide +kernel
theorem dX2_moveEnds_32 : decode cX2_moveEnds 32 = .ok (.iastore, 1) := by decide +kernel
theorem dX2_moveEnds_33 : decode cX2_moveEnds 33 = .ok (.iinc 2 1, 3) := by decide +kernel
theorem dX2_moveEnds_36 : decode cX2_moveEnds 36 = .ok (.goto (-34), 3) := by decide +kernel
theorem dX2_moveEnds_39 : decode cX2_moveEnds 39 = .ok (.return_, 1) := by decide +kernel
theorem dX2_findWinners_0 : decode cX2_findWinners 0 = .ok (.aload_n 0, 1) := by decide +kernel
theorem dX2_findWinners_1 : decode cX2_findWinners 1 = .ok (.getfield 21, 3) := by decide +kernel
theorem dX2_findWinners_4 : decode cX2_findWinners 4 = .ok (.iconst 0, 1) := by decide +kernel
theorem dX2_findWinners_5 : decode cX2_findWinners 5 = .ok (.invokestatic 116, 3) := by decide +kernel
theorem dX2_findWinners_8 : decode cX2_findWinners 8 = .ok (.iconst 0, 1) := by decide +kernel
theorem dX2_findWinners_9 : decode cX2_findWinners 9 = .ok (.istore_n 1, 1) := by decide +kernel
theorem dX2_findWinners_10 : decode cX2_findWinners 10 = .ok (.iload_n 1, 1) := by decide +kernel
theorem dX2_findWinners_11 : decode cX2_findWinners 11 = .ok (.iconst 2, 1) := by decide +kernel
theorem dX2_findWinners_12 : decode cX2_findWinners 12 = .ok (.if_icmp .ge 76, 3) := by decide +kernel
theorem dX2_findWinners_15 : decode cX2_findWinners 15 = .ok (.aload_n 0, 1) := by decide +kernel
theorem dX2_findWinners_16 : decode cX2_findWinners 16 = .ok (.aload_n 0, 1) := by decide +kernel
theorem dX2_findWinners_17 : decode cX2_findWinners 17 = .ok (.getfield 24, 3) := by decide +kernel
theorem dX2_findWinners_20 : decode cX2_findWinners 20 = .ok (.getfield 152, 3) := by decide +kernel
theorem dX2_findWinners_23 : decode cX2_findWinners 23 = .ok (.iconst 1, 1) := by decide +kernel
theorem dX2_findWinners_24 : decode cX2_findWinners 24 = .ok (.iload_n 1, 1) := by decide +kernel
theorem dX2_findWinners_25 : decode cX2_findWinners 25 = .ok (.isub, 1) := by decide +kernel
theorem dX2_findWinners_26 : decode cX2_findWinners 26 = .ok (.iload_n 1, 1) := by decide +kernel
theorem dX2_findWinners_27 : decode cX2_findWinners 27 = .ok (.invokevirtual 128, 3) := by decide +kernel
theorem dX2_findWinners_30 : decode cX2_findWinners 30 = .ok (.iconst 0, 1) := by decide +kernel
theorem dX2_findWinners_31 : decode cX2_findWinners 31 = .ok (.istore_n 2, 1) := by decide +kernel
theorem dX2_findWinners_32 : decode cX2_findWinners 32 = .ok (.iload_n 2, 1) := by decide +kernel
theorem dX2_findWinners_33 : decode cX2_findWinners 33 = .ok (.aload_n 0, 1) := by decide +kernel
theorem dX2_findWinners_34 : decode cX2_findWinners 34 = .ok (.getfield 24, 3) := by decide +kernel
theorem dX2_findWinners_37 : decode cX2_findWinners 37 = .ok (.invokevirtual 83, 3) := by decide +kernel
theorem dX2_findWinners_40 : decode cX2_findWinners 40 = .ok (.if_icmp .ge 42, 3) := by decide +kernel
theorem dX2_findWinners_43 : decode cX2_findWinners 43 = .ok (.aload_n 0, 1) := by decide +kernel
theorem dX2_findWinners_44 : decode cX2_findWinners 44 = .ok (.getfield 21, 3) := by decide +kernel
theorem dX2_findWinners_47 : decode cX2_findWinners 47 = .ok (.iload_n 2, 1) := by decide +kernel
theorem dX2_findWinners_48 : decode cX2_findWinners 48 = .ok (.dup2, 1) := by decide +kernel
theorem dX2_findWinners_49 : decode cX2_findWinners 49 = .ok (.iaload, 1) := by decide +kernel
theorem dX2_findWinners_50 : decode cX2_findWinners 50 = .ok (.aload_n 0, 1) := by decide +kernel
theorem dX2_findWinners_51 : decode cX2_findWinners 51 = .ok (.getfield 15, 3) := by decide +kernel
theorem dX2_findWinners_54 : decode cX2_findWinners 54 = .ok (.iload_n 2, 1) := by decide +kernel
theorem dX2_findWinners_55 : decode cX2_findWinners 55 = .ok (.iaload, 1) := by decide +kernel
theorem dX2_findWinners_56 : decode cX2_findWinners 56 = .ok (.aload_n 0, 1) := by decide +kernel
theorem dX2_findWinners_57 : decode cX2_findWinners 57 = .ok (.getfield 24, 3) := by decide +kernel
theorem dX2_findWinners_60 : decode cX2_findWinners 60 = .ok (.iload_n 1, 1) := by decide +kernel
theorem dX2_findWinners_61 : decode cX2_findWinners 61 = .ok (.invokevirtual 155, 3) := by decide +kernel
theorem dX2_findWinners_64 : decode cX2_findWinners 64 = .ok (.if_icmp .ge 9, 3) := by decide +kernel
theorem dX2_findWinners_67 : decode cX2_findWinners 67 = .ok (.iconst 1, 1) := by decide +kernel
theorem dX2_findWinners_68 : decode cX2_findWinners 68 = .ok (.iload_n 1, 1) := by decide +kernel
theorem dX2_findWinners_69 : decode cX2_findWinners 69 = .ok (.ishl, 1) := by decide +kernel
theorem dX2_findWinners_70 : decode cX2_findWinners 70 = .ok (.goto 4, 3) := by decide +kernel
theorem dX2_findWinners_73 : decode cX2_findWinners 73 = .ok (.iconst 0, 1) := by decide +kernel
theorem dX2_findWinners_74 : decode cX2_findWinners 74 = .ok (.ior, 1) := by decide +kernel
theorem dX2_findWinners_75 : decode cX2_findWinners 75 = .ok (.iastore, 1) := by decide +kernel
theorem dX2_findWinners_76 : decode cX2_findWinners 76 = .ok (.iinc 2 1, 3) := by decide +kernel
theorem dX2_findWinners_79 : decode cX2_findWinners 79 = .ok (.goto (-47), 3) := by decide +kernel
theorem dX2_findWinners_82 : decode cX2_findWinners 82 = .ok (.iinc 1 1, 3) := by decide +kernel
theorem dX2_findWinners_85 : decode cX2_findWinners 85 = .ok (.goto (-75), 3) := by decide +kernel
theorem dX2_findWinners_88 : decode cX2_findWinners 88 = .ok (.iconst 0, 1) := by decide +kernel
theorem dX2_findWinners_89 : decode cX2_findWinners 89 = .ok (.istore_n 1, 1) := by decide +kernel
theorem dX2_findWinners_90 : decode cX2_findWinners 90 = .ok (.iload_n 1, 1) := by decide +kernel
theorem dX2_findWinners_91 : decode cX2_findWinners 91 = .ok (.aload_n 0, 1) := by decide +kernel
theorem dX2_findWinners_92 : decode cX2_findWinners 92 = .ok (.getfield 24, 3) := by decide +kernel
theorem dX2_findWinners_95 : decode cX2_findWinners 95 = .ok (.invokevirtual 83, 3) := by decide +kernel
theorem dX2_findWinners_98 : decode cX2_findWinners 98 = .ok (.if_icmp .ge 30, 3) := by decide +kernel
theorem dX2_findWinners_101 : decode cX2_findWinners 101 = .ok (.aload_n 0, 1) := by decide +kernel
theorem dX2_findWinners_102 : decode cX2_findWinners 102 = .ok (.getfield 21, 3) := by decide +kernel
theorem dX2_findWinners_105 : decode cX2_findWinners 105 = .ok (.iload_n 1, 1) := by decide +kernel
theorem dX2_findWinners_106 : decode cX2_findWinners 106 = .ok (.aload_n 0, 1) := by decide +kernel
theorem dX2_findWinners_107 : decode cX2_findWinners 107 = .ok (.getfield 21, 3) := by decide +kernel
theorem dX2_findWinners_110 : decode cX2_findWinners 110 = .ok (.iload_n 1, 1) := by decide +kernel
theorem dX2_findWinners_111 : decode cX2_findWinners 111 = .ok (.iaload, 1) := by decide +kernel
theorem dX2_findWinners_112 : decode cX2_findWinners 112 = .ok (.aload_n 0, 1) := by decide +kernel
theorem dX2_findWinners_113 : decode cX2_findWinners 113 = .ok (.getfield 18, 3) := by decide +kernel
theorem dX2_findWinners_116 : decode cX2_findWinners 116 = .ok (.iload_n 1, 1) := by decide +kernel
theorem dX2_findWinners_117 : decode cX2_findWinners 117 = .ok (.iaload, 1) := by decide +kernel
theorem dX2_findWinners_118 : decode cX2_findWinners 118 = .ok (.invokestatic 60, 3) := by decide +kernel
theorem dX2_findWinners_121 : decode cX2_findWinners 121 = .ok (.iastore, 1) := by decide +kernel
theorem dX2_findWinners_122 : decode cX2_findWinners 122 = .ok (.iinc 1 1, 3) := by decide +kernel
theorem dX2_findWinners_125 : decode cX2_findWinners 125 = .ok (.goto (-35), 3) := by decide +kernel
theorem dX2_findWinners_128 : decode cX2_findWinners 128 = .ok (.return_, 1) := by decide +kernel
theorem dX2_reckonedWinner_0 : decode cX2_reckonedWinner 0 = .ok (.iload_n 1, 1) := by decide +kernel
theorem dX2_reckonedWinner_1 : decode cX2_reckonedWinner 1 = .ok (.ifCond .lt 19, 3) := by decide +kernel
theorem dX2_reckonedWinner_4 : decode cX2_reckonedWinner 4 = .ok (.iload_n 1, 1) := by decide +kernel
theorem dX2_reckonedWinner_5 : decode cX2_reckonedWinner 5 = .ok (.sipush 512, 3) := by decide +kernel
theorem dX2_reckonedWinner_8 : decode cX2_reckonedWinner 8 = .ok (.if_icmp .ge 12, 3) := by decide +kernel
theorem dX2_reckonedWinner_11 : decode cX2_reckonedWinner 11 = .ok (.aload_n 0, 1) := by decide +kernel
theorem dX2_reckonedWinner_12 : decode cX2_reckonedWinner 12 = .ok (.getfield 21, 3) := by decide +kernel
theorem dX2_reckonedWinner_15 : decode cX2_reckonedWinner 15 = .ok (.iload_n 1, 1) := by decide +kernel
theorem dX2_reckonedWinner_16 : decode cX2_reckonedWinner 16 = .ok (.iaload, 1) := by decide +kernel
theorem dX2_reckonedWinner_17 : decode cX2_reckonedWinner 17 = .ok (.goto 4, 3) := by decide +kernel
theorem dX2_reckonedWinner_20 : decode cX2_reckonedWinner 20 = .ok (.iconst (-1), 1) := by decide +kernel
theorem dX2_reckonedWinner_21 : decode cX2_reckonedWinner 21 = .ok (.ireturn, 1) := by decide +kernel
theorem dX2_winner_0 : decode cX2_winner 0 = .ok (.iload_n 0, 1) := by decide +kernel
theorem dX2_winner_1 : decode cX2_winner 1 = .ok (.lookupswitch 31 #[(1, 27), (2, 29)], 27) := by decide +kernel
theorem dX2_winner_28 : decode cX2_winner 28 = .ok (.iconst 1, 1) := by decide +kernel
theorem dX2_winner_29 : decode cX2_winner 29 = .ok (.ireturn, 1) := by decide +kernel
theorem dX2_winner_30 : decode cX2_winner 30 = .ok (.iconst 0, 1) := by decide +kernel
theorem dX2_winner_31 : decode cX2_winner 31 = .ok (.ireturn, 1) := by decide +kernel
theorem dX2_winner_32 : decode cX2_winner 32 = .ok (.iload_n 1, 1) := by decide +kernel
theorem dX2_winner_33 : decode cX2_winner 33 = .ok (.ifCond .le 7, 3) := by decide +kernel
theorem dX2_winner_36 : decode cX2_winner 36 = .ok (.iconst 0, 1) := by decide +kernel
theorem dX2_winner_37 : decode cX2_winner 37 = .ok (.goto 12, 3) := by decide +kernel
theorem dX2_winner_40 : decode cX2_winner 40 = .ok (.iload_n 1, 1) := by decide +kernel
theorem dX2_winner_41 : decode cX2_winner 41 = .ok (.ifCond .ge 7, 3) := by decide +kernel
theorem dX2_winner_44 : decode cX2_winner 44 = .ok (.iconst 1, 1) := by decide +kernel
theorem dX2_winner_45 : decode cX2_winner 45 = .ok (.goto 4, 3) := by decide +kernel
theorem dX2_winner_48 : decode cX2_winner 48 = .ok (.iconst (-1), 1) := by decide +kernel
theorem dX2_winner_49 : decode cX2_winner 49 = .ok (.ireturn, 1) := by decide +kernel
theorem dX2_good_0 : decode cX2_good 0 = .ok (.iload_n 0, 1) := by decide +kernel
theorem dX2_good_1 : decode cX2_good 1 = .ok (.ifCond .ne 7, 3) := by decide +kernel
theorem dX2_good_4 : decode cX2_good 4 = .ok (.iload_n 1, 1) := by decide +kernel
theorem dX2_good_5 : decode cX2_good 5 = .ok (.goto 5, 3) := by decide +kernel
theorem dX2_good_8 : decode cX2_good 8 = .ok (.iload_n 1, 1) := by decide +kernel
theorem dX2_good_9 : decode cX2_good 9 = .ok (.ineg, 1) := by decide +kernel
theorem dX2_good_10 : decode cX2_good 10 = .ok (.ireturn, 1) := by decide +kernel
theorem dX2_signOf_0 : decode cX2_signOf 0 = .ok (.iload_n 0, 1) := by decide +kernel
theorem dX2_signOf_1 : decode cX2_signOf 1 = .ok (.ifCond .le 7, 3) := by decide +kernel
theorem dX2_signOf_4 : decode cX2_signOf 4 = .ok (.iconst 1, 1) := by decide +kernel
theorem dX2_signOf_5 : decode cX2_signOf 5 = .ok (.goto 12, 3) := by decide +kernel
theorem dX2_signOf_8 : decode cX2_signOf 8 = .ok (.iload_n 0, 1) := by decide +kernel
theorem dX2_signOf_9 : decode cX2_signOf 9 = .ok (.ifCond .ge 7, 3) := by decide +kernel
theorem dX2_signOf_12 : decode cX2_signOf 12 = .ok (.iconst (-1), 1) := by decide +kernel
theorem dX2_signOf_13 : decode cX2_signOf 13 = .ok (.goto 4, 3) := by decide +kernel
theorem dX2_signOf_16 : decode cX2_signOf 16 = .ok (.iconst 0, 1) := by decide +kernel
theorem dX2_signOf_17 : decode cX2_signOf 17 = .ok (.ireturn, 1) := by decide +kernel
theorem dX3_init_0 : decode cX3_init 0 = .ok (.aload_n 0, 1) := by decide +kernel
theorem dX3_init_1 : decode cX3_init 1 = .ok (.invokespecial 3, 3) := by decide +kernel
theorem dX3_init_4 : decode cX3_init 4 = .ok (.aload_n 0, 1) := by decide +kernel
theorem dX3_init_5 : decode cX3_init 5 = .ok (.sipush 512, 3) := by decide +kernel
theorem dX3_init_8 : decode cX3_init 8 = .ok (.newarray .int, 2) := by decide +kernel
theorem dX3_init_10 : decode cX3_init 10 = .ok (.putfield 9, 3) := by decide +kernel
theorem dX3_init_13 : decode cX3_init 13 = .ok (.aload_n 0, 1) := by decide +kernel
theorem dX3_init_14 : decode cX3_init 14 = .ok (.sipush 512, 3) := by decide +kernel
theorem dX3_init_17 : decode cX3_init 17 = .ok (.newarray .int, 2) := by decide +kernel
theorem dX3_init_19 : decode cX3_init 19 = .ok (.putfield 15, 3) := by decide +kernel
theorem dX3_init_22 : decode cX3_init 22 = .ok (.aload_n 0, 1) := by decide +kernel
theorem dX3_init_23 : decode cX3_init 23 = .ok (.sipush 512, 3) := by decide +kernel
theorem dX3_init_26 : decode cX3_init 26 = .ok (.newarray .long, 2) := by decide +kernel
theorem dX3_init_28 : decode cX3_init 28 = .ok (.putfield 18, 3) := by decide +kernel
theorem dX3_init_31 : decode cX3_init 31 = .ok (.aload_n 0, 1) := by decide +kernel
theorem dX3_init_32 : decode cX3_init 32 = .ok (.sipush 512, 3) := by decide +kernel
theorem dX3_init_35 : decode cX3_init 35 = .ok (.newarray .boolean, 2) := by decide +kernel
theorem dX3_init_37 : decode cX3_init 37 = .ok (.putfield 22, 3) := by decide +kernel
theorem dX3_init_40 : decode cX3_init 40 = .ok (.aload_n 0, 1) := by decide +kernel
theorem dX3_init_41 : decode cX3_init 41 = .ok (.sipush 512, 3) := by decide +kernel
theorem dX3_init_44 : decode cX3_init 44 = .ok (.newarray .int, 2) := by decide +kernel
theorem dX3_init_46 : decode cX3_init 46 = .ok (.putfield 26, 3) := by decide +kernel
theorem dX3_init_49 : decode cX3_init 49 = .ok (.aload_n 0, 1) := by decide +kernel
theorem dX3_init_50 : decode cX3_init 50 = .ok (.sipush 512, 3) := by decide +kernel
theorem dX3_init_53 : decode cX3_init 53 = .ok (.newarray .int, 2) := by decide +kernel
theorem dX3_init_55 : decode cX3_init 55 = .ok (.putfield 29, 3) := by decide +kernel
theorem dX3_init_58 : decode cX3_init 58 = .ok (.aload_n 0, 1) := by decide +kernel
theorem dX3_init_59 : decode cX3_init 59 = .ok (.aload_n 1, 1) := by decide +kernel
theorem dX3_init_60 : decode cX3_init 60 = .ok (.putfield 32, 3) := by decide +kernel
theorem dX3_init_63 : decode cX3_init 63 = .ok (.aload_n 0, 1) := by decide +kernel
theorem dX3_init_64 : decode cX3_init 64 = .ok (.aload_n 2, 1) := by decide +kernel
theorem dX3_init_65 : decode cX3_init 65 = .ok (.putfield 36, 3) := by decide +kernel
theorem dX3_init_68 : decode cX3_init 68 = .ok (.return_, 1) := by decide +kernel
theorem dX3_enoughParts_0 : decode cX3_enoughParts 0 = .ok (.aload_n 0, 1) := by decide +kernel
theorem dX3_enoughParts_1 : decode cX3_enoughParts 1 = .ok (.iload_n 1, 1) := by decide +kernel
theorem dX3_enoughParts_2 : decode cX3_enoughParts 2 = .ok (.invokevirtual 40, 3) := by decide +kernel
theorem dX3_enoughParts_5 : decode cX3_enoughParts 5 = .ok (.aload_n 0, 1) := by decide +kernel
theorem dX3_enoughParts_6 : decode cX3_enoughParts 6 = .ok (.getfield 32, 3) := by decide +kernel
theorem dX3_enoughParts_9 : decode cX3_enoughParts 9 = .ok (.iload_n 1, 1) := by decide +kernel
theorem dX3_enoughParts_10 : decode cX3_enoughParts 10 = .ok (.invokevirtual 44, 3) := by decide +kernel
theorem dX3_enoughParts_13 : decode cX3_enoughParts 13 = .ok (.istore_n 2, 1) := by decide +kernel
theorem dX3_enoughParts_14 : decode cX3_enoughParts 14 = .ok (.iload_n 2, 1) := by decide +kernel
theorem dX3_enoughParts_15 : decode cX3_enoughParts 15 = .ok (.sipush 512, 3) := by decide +kernel
theorem dX3_enoughParts_18 : decode cX3_enoughParts 18 = .ok (.if_icmp .ge 12, 3) := by decide +kernel
theorem dX3_enoughParts_21 : decode cX3_enoughParts 21 = .ok (.aload_n 0, 1) := by decide +kernel
theorem dX3_enoughParts_22 : decode cX3_enoughParts 22 = .ok (.getfield 18, 3) := by decide +kernel
theorem dX3_enoughParts_25 : decode cX3_enoughParts 25 = .ok (.iload_n 2, 1) := by decide +kernel
theorem dX3_enoughParts_26 : decode cX3_enoughParts 26 = .ok (.laload, 1) := by decide +kernel
theorem dX3_enoughParts_27 : decode cX3_enoughParts 27 = .ok (.goto 4, 3) := by decide +kernel
theorem dX3_enoughParts_30 : decode cX3_enoughParts 30 = .ok (.lconst 0, 1) := by decide +kernel
theorem dX3_enoughParts_31 : decode cX3_enoughParts 31 = .ok (.lreturn, 1) := by decide +kernel
theorem dX3_sentSet_0 : decode cX3_sentSet 0 = .ok (.aload_n 0, 1) := by decide +kernel
theorem dX3_sentSet_1 : decode cX3_sentSet 1 = .ok (.iload_n 1, 1) := by decide +kernel
theorem dX3_sentSet_2 : decode cX3_sentSet 2 = .ok (.bipush 100, 2) := by decide +kernel
theorem dX3_sentSet_4 : decode cX3_sentSet 4 = .ok (.invokevirtual 50, 3) := by decide +kernel
theorem dX3_sentSet_7 : decode cX3_sentSet 7 = .ok (.ireturn, 1) := by decide +kernel
theorem dX3_fewestSent_0 : decode cX3_fewestSent 0 = .ok (.aload_n 0, 1) := by decide +kernel
theorem dX3_fewestSent_1 : decode cX3_fewestSent 1 = .ok (.iload_n 1, 1) := by decide +kernel
theorem dX3_fewestSent_2 : decode cX3_fewestSent 2 = .ok (.bipush 100, 2) := by decide +kernel
theorem dX3_fewestSent_4 : decode cX3_fewestSent 4 = .ok (.invokevirtual 54, 3) := by decide +kernel
theorem dX3_fewestSent_7 : decode cX3_fewestSent 7 = .ok (.aload_n 0, 1) := by decide +kernel
theorem dX3_fewestSent_8 : decode cX3_fewestSent 8 = .ok (.getfield 32, 3) := by decide +kernel
theorem dX3_fewestSent_11 : decode cX3_fewestSent 11 = .ok (.iload_n 1, 1) := by decide +kernel
theorem dX3_fewestSent_12 : decode cX3_fewestSent 12 = .ok (.invokevirtual 44, 3) := by decide +kernel
theorem dX3_fewestSent_15 : decode cX3_fewestSent 15 = .ok (.istore_n 2, 1) := by decide +kernel
theorem dX3_fewestSent_16 : decode cX3_fewestSent 16 = .ok (.iconst (-1), 1) := by decide +kernel
theorem dX3_fewestSent_17 : decode cX3_fewestSent 17 = .ok (.istore_n 3, 1) := by decide +kernel
theorem dX3_fewestSent_18 : decode cX3_fewestSent 18 = .ok (.iconst 0, 1) := by decide +kernel
theorem dX3_fewestSent_19 : decode cX3_fewestSent 19 = .ok (.istore 4, 2) := by decide +kernel
theorem dX3_fewestSent_21 : decode cX3_fewestSent 21 = .ok (.iload 4, 2) := by decide +kernel
theorem dX3_fewestSent_23 : decode cX3_fewestSent 23 = .ok (.aload_n 0, 1) := by decide +kernel
theorem dX3_fewestSent_24 : decode cX3_fewestSent 24 = .ok (.getfield 32, 3) := by decide +kernel
theorem dX3_fewestSent_27 : decode cX3_fewestSent 27 = .ok (.invokevirtual 58, 3) := by decide +kernel
theorem dX3_fewestSent_30 : decode cX3_fewestSent 30 = .ok (.if_icmp .ge 49, 3) := by decide +kernel
theorem dX3_fewestSent_33 : decode cX3_fewestSent 33 = .ok (.iload 4, 2) := by decide +kernel
theorem dX3_fewestSent_35 : decode cX3_fewestSent 35 = .ok (.invokestatic 62, 3) := by decide +kernel
theorem dX3_fewestSent_38 : decode cX3_fewestSent 38 = .ok (.istore 5, 2) := by decide +kernel
theorem dX3_fewestSent_40 : decode cX3_fewestSent 40 = .ok (.iload 4, 2) := by decide +kernel
theorem dX3_fewestSent_42 : decode cX3_fewestSent 42 = .ok (.iload_n 2, 1) := by decide +kernel
theorem dX3_fewestSent_43 : decode cX3_fewestSent 43 = .ok (.iconst (-1), 1) := by decide +kernel
theorem dX3_fewestSent_44 : decode cX3_fewestSent 44 = .ok (.ixor, 1) := by decide +kernel
theorem dX3_fewestSent_45 : decode cX3_fewestSent 45 = .ok (.iand, 1) := by decide +kernel
theorem dX3_fewestSent_46 : decode cX3_fewestSent 46 = .ok (.ifCond .ne 27, 3) := by decide +kernel
theorem dX3_fewestSent_49 : decode cX3_fewestSent 49 = .ok (.aload_n 0, 1) := by decide +kernel
theorem dX3_fewestSent_50 : decode cX3_fewestSent 50 = .ok (.getfield 22, 3) := by decide +kernel
theorem dX3_fewestSent_53 : decode cX3_fewestSent 53 = .ok (.iload 4, 2) := by decide +kernel
theorem dX3_fewestSent_55 : decode cX3_fewestSent 55 = .ok (.baload, 1) := by decide +kernel
theorem dX3_fewestSent_56 : decode cX3_fewestSent 56 = .ok (.ifCond .eq 17, 3) := by decide +kernel
theorem dX3_fewestSent_59 : decode cX3_fewestSent 59 = .ok (.iload_n 3, 1) := by decide +kernel
theorem dX3_fewestSent_60 : decode cX3_fewestSent 60 = .ok (.iconst (-1), 1) := by decide +kernel
theorem dX3_fewestSent_61 : decode cX3_fewestSent 61 = .ok (.if_icmp .eq 9, 3) := by decide +kernel
theorem dX3_fewestSent_64 : decode cX3_fewestSent 64 = .ok (.iload 5, 2) := by decide +kernel
theorem dX3_fewestSent_66 : decode cX3_fewestSent 66 = .ok (.iload_n 3, 1) := by decide +kernel
theorem dX3_fewestSent_67 : decode cX3_fewestSent 67 = .ok (.if_icmp .ge 6, 3) := by decide +kernel
theorem dX3_fewestSent_70 : decode cX3_fewestSent 70 = .ok (.iload 5, 2) := by decide +kernel
theorem dX3_fewestSent_72 : decode cX3_fewestSent 72 = .ok (.istore_n 3, 1) := by decide +kernel
theorem dX3_fewestSent_73 : decode cX3_fewestSent 73 = .ok (.iinc 4 1, 3) := by decide +kernel
theorem dX3_fewestSent_76 : decode cX3_fewestSent 76 = .ok (.goto (-55), 3) := by decide +kernel
theorem dX3_fewestSent_79 : decode cX3_fewestSent 79 = .ok (.iload_n 3, 1) := by decide +kernel
theorem dX3_fewestSent_80 : decode cX3_fewestSent 80 = .ok (.ireturn, 1) := by decide +kernel
theorem dX3_riskedSet_0 : decode cX3_riskedSet 0 = .ok (.aload_n 0, 1) := by decide +kernel
theorem dX3_riskedSet_1 : decode cX3_riskedSet 1 = .ok (.invokevirtual 67, 3) := by decide +kernel
theorem dX3_riskedSet_4 : decode cX3_riskedSet 4 = .ok (.aload_n 0, 1) := by decide +kernel
theorem dX3_riskedSet_5 : decode cX3_riskedSet 5 = .ok (.iload_n 1, 1) := by decide +kernel
theorem dX3_riskedSet_6 : decode cX3_riskedSet 6 = .ok (.iload_n 2, 1) := by decide +kernel
theorem dX3_riskedSet_7 : decode cX3_riskedSet 7 = .ok (.invokevirtual 54, 3) := by decide +kernel
theorem dX3_riskedSet_10 : decode cX3_riskedSet 10 = .ok (.aload_n 0, 1) := by decide +kernel
theorem dX3_riskedSet_11 : decode cX3_riskedSet 11 = .ok (.aload_n 0, 1) := by decide +kernel
theorem dX3_riskedSet_12 : decode cX3_riskedSet 12 = .ok (.getfield 32, 3) := by decide +kernel
theorem dX3_riskedSet_15 : decode cX3_riskedSet 15 = .ok (.iload_n 1, 1) := by decide +kernel
theorem dX3_riskedSet_16 : decode cX3_riskedSet 16 = .ok (.invokevirtual 44, 3) := by decide +kernel
theorem dX3_riskedSet_19 : decode cX3_riskedSet 19 = .ok (.invokevirtual 70, 3) := by decide +kernel
theorem dX3_riskedSet_22 : decode cX3_riskedSet 22 = .ok (.ireturn, 1) := by decide +kernel
theorem dX3_bribedSet_0 : decode cX3_bribedSet 0 = .ok (.aload_n 0, 1) := by decide +kernel
theorem dX3_bribedSet_1 : decode cX3_bribedSet 1 = .ok (.invokevirtual 67, 3) := by decide +kernel
theorem dX3_bribedSet_4 : decode cX3_bribedSet 4 = .ok (.aload_n 0, 1) := by decide +kernel
theorem dX3_bribedSet_5 : decode cX3_bribedSet 5 = .ok (.iload_n 1, 1) := by decide +kernel
theorem dX3_bribedSet_6 : decode cX3_bribedSet 6 = .ok (.invokevirtual 73, 3) := by decide +kernel
theorem dX3_bribedSet_9 : decode cX3_bribedSet 9 = .ok (.aload_n 0, 1) := by decide +kernel
theorem dX3_bribedSet_10 : decode cX3_bribedSet 10 = .ok (.getfield 32, 3) := by decide +kernel
theorem dX3_bribedSet_13 : decode cX3_bribedSet 13 = .ok (.iload_n 1, 1) := by decide +kernel
theorem dX3_bribedSet_14 : decode cX3_bribedSet 14 = .ok (.invokevirtual 44, 3) := by decide +kernel
theorem dX3_bribedSet_17 : decode cX3_bribedSet 17 = .ok (.istore_n 3, 1) := by decide +kernel
theorem dX3_bribedSet_18 : decode cX3_bribedSet 18 = .ok (.aload_n 0, 1) := by decide +kernel
theorem dX3_bribedSet_19 : decode cX3_bribedSet 19 = .ok (.iload_n 2, 1) := by decide +kernel
theorem dX3_bribedSet_20 : decode cX3_bribedSet 20 = .ok (.iconst (-1), 1) := by decide +kernel
theorem dX3_bribedSet_21 : decode cX3_bribedSet 21 = .ok (.if_icmp .ne 7, 3) := by decide +kernel
theorem dX3_bribedSet_24 : decode cX3_bribedSet 24 = .ok (.iload_n 3, 1) := by decide +kernel
theorem dX3_bribedSet_25 : decode cX3_bribedSet 25 = .ok (.goto 10, 3) := by decide +kernel
theorem dX3_bribedSet_28 : decode cX3_bribedSet 28 = .ok (.iload_n 3, 1) := by decide +kernel
theorem dX3_bribedSet_29 : decode cX3_bribedSet 29 = .ok (.iconst 1, 1) := by decide +kernel
theorem dX3_bribedSet_30 : decode cX3_bribedSet 30 = .ok (.iload_n 2, 1) := by decide +kernel
theorem dX3_bribedSet_31 : decode cX3_bribedSet 31 = .ok (.ishl, 1) := by decide +kernel
theorem dX3_bribedSet_32 : decode cX3_bribedSet 32 = .ok (.iconst (-1), 1) := by decide +kernel
theorem dX3_bribedSet_33 : decode cX3_bribedSet 33 = .ok (.ixor, 1) := by decide +kernel
theorem dX3_bribedSet_34 : decode cX3_bribedSet 34 = .ok (.iand, 1) := by decide +kernel
theorem dX3_bribedSet_35 : decode cX3_bribedSet 35 = .ok (.invokevirtual 70, 3) := by decide +kernel
theorem dX3_bribedSet_38 : decode cX3_bribedSet 38 = .ok (.ireturn, 1) := by decide +kernel
theorem dX3_guardedTrain_0 : decode cX3_guardedTrain 0 = .ok (.aload_n 0, 1) := by decide +kernel
theorem dX3_guardedTrain_1 : decode cX3_guardedTrain 1 = .ok (.invokevirtual 67, 3) := by decide +kernel
theorem dX3_guardedTrain_4 : decode cX3_guardedTrain 4 = .ok (.aload_n 0, 1) := by decide +kernel
theorem dX3_guardedTrain_5 : decode cX3_guardedTrain 5 = .ok (.iload_n 1, 1) := by decide +kernel
theorem dX3_guardedTrain_6 : decode cX3_guardedTrain 6 = .ok (.invokevirtual 73, 3) := by decide +kernel
theorem dX3_guardedTrain_9 : decode cX3_guardedTrain 9 = .ok (.aload_n 0, 1) := by decide +kernel
theorem dX3_guardedTrain_10 : decode cX3_guardedTrain 10 = .ok (.getfield 32, 3) := by decide +kernel
theorem dX3_guardedTrain_13 : decode cX3_guardedTrain 13 = .ok (.iload_n 1, 1) := by decide +kernel
theorem dX3_guardedTrain_14 : decode cX3_guardedTrain 14 = .ok (.invokevirtual 44, 3) := by decide +kernel
theorem dX3_guardedTrain_17 : decode cX3_guardedTrain 17 = .ok (.istore_n 2, 1) := by decide +kernel
theorem dX3_guardedTrain_18 : decode cX3_guardedTrain 18 = .ok (.aload_n 0, 1) := by decide +kernel
theorem dX3_guardedTrain_19 : decode cX3_guardedTrain 19 = .ok (.aload_n 0, 1) := by decide +kernel
theorem dX3_guardedTrain_20 : decode cX3_guardedTrain 20 = .ok (.iload_n 2, 1) := by decide +kernel
theorem dX3_guardedTrain_21 : decode cX3_guardedTrain 21 = .ok (.invokevirtual 70, 3) := by decide +kernel
theorem dX3_guardedTrain_24 : decode cX3_guardedTrain 24 = .ok (.invokevirtual 76, 3) := by decide +kernel
theorem dX3_guardedTrain_27 : decode cX3_guardedTrain 27 = .ok (.istore_n 3, 1) := by decide +kernel
theorem dX3_guardedTrain_28 : decode cX3_guardedTrain 28 = .ok (.iconst (-1), 1) := by decide +kernel
theorem dX3_guardedTrain_29 : decode cX3_guardedTrain 29 = .ok (.istore 4, 2) := by decide +kernel
theorem dX3_guardedTrain_31 : decode cX3_guardedTrain 31 = .ok (.iconst 0, 1) := by decide +kernel
theorem dX3_guardedTrain_32 : decode cX3_guardedTrain 32 = .ok (.istore 5, 2) := by decide +kernel
theorem dX3_guardedTrain_34 : decode cX3_guardedTrain 34 = .ok (.iload 5, 2) := by decide +kernel
theorem dX3_guardedTrain_36 : decode cX3_guardedTrain 36 = .ok (.aload_n 0, 1) := by decide +kernel
theorem dX3_guardedTrain_37 : decode cX3_guardedTrain 37 = .ok (.getfield 32, 3) := by decide +kernel
theorem dX3_guardedTrain_40 : decode cX3_guardedTrain 40 = .ok (.getfield 79, 3) := by decide +kernel
theorem dX3_guardedTrain_43 : decode cX3_guardedTrain 43 = .ok (.getfield 83, 3) := by decide +kernel
theorem dX3_guardedTrain_46 : decode cX3_guardedTrain 46 = .ok (.if_icmp .ge 53, 3) := by decide +kernel
theorem dX3_guardedTrain_49 : decode cX3_guardedTrain 49 = .ok (.iload_n 2, 1) := by decide +kernel
theorem dX3_guardedTrain_50 : decode cX3_guardedTrain 50 = .ok (.iload 5, 2) := by decide +kernel
theorem dX3_guardedTrain_52 : decode cX3_guardedTrain 52 = .ok (.invokestatic 89, 3) := by decide +kernel
theorem dX3_guardedTrain_55 : decode cX3_guardedTrain 55 = .ok (.ifCond .eq 22, 3) := by decide +kernel
theorem dX3_guardedTrain_58 : decode cX3_guardedTrain 58 = .ok (.aload_n 0, 1) := by decide +kernel
theorem dX3_guardedTrain_59 : decode cX3_guardedTrain 59 = .ok (.aload_n 0, 1) := by decide +kernel
theorem dX3_guardedTrain_60 : decode cX3_guardedTrain 60 = .ok (.iload_n 2, 1) := by decide +kernel
theorem dX3_guardedTrain_61 : decode cX3_guardedTrain 61 = .ok (.iconst 1, 1) := by decide +kernel
theorem dX3_guardedTrain_62 : decode cX3_guardedTrain 62 = .ok (.iload 5, 2) := by decide +kernel
theorem dX3_guardedTrain_64 : decode cX3_guardedTrain 64 = .ok (.ishl, 1) := by decide +kernel
theorem dX3_guardedTrain_65 : decode cX3_guardedTrain 65 = .ok (.iconst (-1), 1) := by decide +kernel
theorem dX3_guardedTrain_66 : decode cX3_guardedTrain 66 = .ok (.ixor, 1) := by decide +kernel
theorem dX3_guardedTrain_67 : decode cX3_guardedTrain 67 = .ok (.iand, 1) := by decide +kernel
theorem dX3_guardedTrain_68 : decode cX3_guardedTrain 68 = .ok (.invokevirtual 70, 3) := by decide +kernel
theorem dX3_guardedTrain_71 : decode cX3_guardedTrain 71 = .ok (.invokevirtual 76, 3) := by decide +kernel
theorem dX3_guardedTrain_74 : decode cX3_guardedTrain 74 = .ok (.goto 4, 3) := by decide +kernel
theorem dX3_guardedTrain_77 : decode cX3_guardedTrain 77 = .ok (.iconst 0, 1) := by decide +kernel
theorem dX3_guardedTrain_78 : decode cX3_guardedTrain 78 = .ok (.istore 6, 2) := by decide +kernel
theorem dX3_guardedTrain_80 : decode cX3_guardedTrain 80 = .ok (.iload 6, 2) := by decide +kernel
theorem dX3_guardedTrain_82 : decode cX3_guardedTrain 82 = .ok (.iload_n 3, 1) := by decide +kernel
theorem dX3_guardedTrain_83 : decode cX3_guardedTrain 83 = .ok (.if_icmp .le 10, 3) := by decide +kernel
theorem dX3_guardedTrain_86 : decode cX3_guardedTrain 86 = .ok (.iload 6, 2) := by decide +kernel
theorem dX3_guardedTrain_88 : decode cX3_guardedTrain 88 = .ok (.istore_n 3, 1) := by decide +kernel
theorem dX3_guardedTrain_89 : decode cX3_guardedTrain 89 = .ok (.iload 5, 2) := by decide +kernel
theorem dX3_guardedTrain_91 : decode cX3_guardedTrain 91 = .ok (.istore 4, 2) := by decide +kernel
theorem dX3_guardedTrain_93 : decode cX3_guardedTrain 93 = .ok (.iinc 5 1, 3) := by decide +kernel
theorem dX3_guardedTrain_96 : decode cX3_guardedTrain 96 = .ok (.goto (-62), 3) := by decide +kernel
theorem dX3_guardedTrain_99 : decode cX3_guardedTrain 99 = .ok (.iload 4, 2) := by decide +kernel
theorem dX3_guardedTrain_101 : decode cX3_guardedTrain 101 = .ok (.ireturn, 1) := by decide +kernel
theorem dX3_spoiledSet_0 : decode cX3_spoiledSet 0 = .ok (.aload_n 0, 1) := by decide +kernel
theorem dX3_spoiledSet_1 : decode cX3_spoiledSet 1 = .ok (.getfield 36, 3) := by decide +kernel
theorem dX3_spoiledSet_4 : decode cX3_spoiledSet 4 = .ok (.invokevirtual 93, 3) := by decide +kernel
theorem dX3_spoiledSet_7 : decode cX3_spoiledSet 7 = .ok (.aload_n 0, 1) := by decide +kernel
theorem dX3_spoiledSet_8 : decode cX3_spoiledSet 8 = .ok (.invokevirtual 67, 3) := by decide +kernel
theorem dX3_spoiledSet_11 : decode cX3_spoiledSet 11 = .ok (.aload_n 0, 1) := by decide +kernel
theorem dX3_spoiledSet_12 : decode cX3_spoiledSet 12 = .ok (.getfield 32, 3) := by decide +kernel
theorem dX3_spoiledSet_15 : decode cX3_spoiledSet 15 = .ok (.iload_n 1, 1) := by decide +kernel
theorem dX3_spoiledSet_16 : decode cX3_spoiledSet 16 = .ok (.invokevirtual 44, 3) := by decide +kernel
theorem dX3_spoiledSet_19 : decode cX3_spoiledSet 19 = .ok (.istore_n 3, 1) := by decide +kernel
theorem dX3_spoiledSet_20 : decode cX3_spoiledSet 20 = .ok (.iconst 0, 1) := by decide +kernel
theorem dX3_spoiledSet_21 : decode cX3_spoiledSet 21 = .ok (.istore 4, 2) := by decide +kernel
theorem dX3_spoiledSet_23 : decode cX3_spoiledSet 23 = .ok (.iconst 1, 1) := by decide +kernel
theorem dX3_spoiledSet_24 : decode cX3_spoiledSet 24 = .ok (.istore 5, 2) := by decide +kernel
theorem dX3_spoiledSet_26 : decode cX3_spoiledSet 26 = .ok (.iload 5, 2) := by decide +kernel
theorem dX3_spoiledSet_28 : decode cX3_spoiledSet 28 = .ok (.aload_n 0, 1) := by decide +kernel
theorem dX3_spoiledSet_29 : decode cX3_spoiledSet 29 = .ok (.getfield 32, 3) := by decide +kernel
theorem dX3_spoiledSet_32 : decode cX3_spoiledSet 32 = .ok (.invokevirtual 58, 3) := by decide +kernel
theorem dX3_spoiledSet_35 : decode cX3_spoiledSet 35 = .ok (.if_icmp .ge 56, 3) := by decide +kernel
theorem dX3_spoiledSet_38 : decode cX3_spoiledSet 38 = .ok (.iload 5, 2) := by decide +kernel
theorem dX3_spoiledSet_40 : decode cX3_spoiledSet 40 = .ok (.iload_n 3, 1) := by decide +kernel
theorem dX3_spoiledSet_41 : decode cX3_spoiledSet 41 = .ok (.iconst (-1), 1) := by decide +kernel
theorem dX3_spoiledSet_42 : decode cX3_spoiledSet 42 = .ok (.ixor, 1) := by decide +kernel
theorem dX3_spoiledSet_43 : decode cX3_spoiledSet 43 = .ok (.iand, 1) := by decide +kernel
theorem dX3_spoiledSet_44 : decode cX3_spoiledSet 44 = .ok (.ifCond .ne 41, 3) := by decide +kernel
theorem dX3_spoiledSet_47 : decode cX3_spoiledSet 47 = .ok (.aload_n 0, 1) := by decide +kernel
theorem dX3_spoiledSet_48 : decode cX3_spoiledSet 48 = .ok (.getfield 9, 3) := by decide +kernel
theorem dX3_spoiledSet_51 : decode cX3_spoiledSet 51 = .ok (.iload 5, 2) := by decide +kernel
theorem dX3_spoiledSet_53 : decode cX3_spoiledSet 53 = .ok (.iaload, 1) := by decide +kernel
theorem dX3_spoiledSet_54 : decode cX3_spoiledSet 54 = .ok (.iload_n 2, 1) := by decide +kernel
theorem dX3_spoiledSet_55 : decode cX3_spoiledSet 55 = .ok (.if_icmp .gt 30, 3) := by decide +kernel
theorem dX3_spoiledSet_58 : decode cX3_spoiledSet 58 = .ok (.aload_n 0, 1) := by decide +kernel
theorem dX3_spoiledSet_59 : decode cX3_spoiledSet 59 = .ok (.getfield 36, 3) := by decide +kernel
theorem dX3_spoiledSet_62 : decode cX3_spoiledSet 62 = .ok (.iload_n 1, 1) := by decide +kernel
theorem dX3_spoiledSet_63 : decode cX3_spoiledSet 63 = .ok (.iload 5, 2) := by decide +kernel
theorem dX3_spoiledSet_65 : decode cX3_spoiledSet 65 = .ok (.invokevirtual 98, 3) := by decide +kernel
theorem dX3_spoiledSet_68 : decode cX3_spoiledSet 68 = .ok (.aload_n 0, 1) := by decide +kernel
theorem dX3_spoiledSet_69 : decode cX3_spoiledSet 69 = .ok (.getfield 36, 3) := by decide +kernel
theorem dX3_spoiledSet_72 : decode cX3_spoiledSet 72 = .ok (.iload_n 1, 1) := by decide +kernel
theorem dX3_spoiledSet_73 : decode cX3_spoiledSet 73 = .ok (.iload 4, 2) := by decide +kernel
theorem dX3_spoiledSet_75 : decode cX3_spoiledSet 75 = .ok (.invokevirtual 98, 3) := by decide +kernel
theorem dX3_spoiledSet_78 : decode cX3_spoiledSet 78 = .ok (.if_icmp .ge 7, 3) := by decide +kernel
theorem dX3_spoiledSet_81 : decode cX3_spoiledSet 81 = .ok (.iload 5, 2) := by decide +kernel
theorem dX3_spoiledSet_83 : decode cX3_spoiledSet 83 = .ok (.istore 4, 2) := by decide +kernel
theorem dX3_spoiledSet_85 : decode cX3_spoiledSet 85 = .ok (.iinc 5 1, 3) := by decide +kernel
theorem dX3_spoiledSet_88 : decode cX3_spoiledSet 88 = .ok (.goto (-62), 3) := by decide +kernel
theorem dX3_spoiledSet_91 : decode cX3_spoiledSet 91 = .ok (.iload 4, 2) := by decide +kernel
theorem dX3_spoiledSet_93 : decode cX3_spoiledSet 93 = .ok (.ireturn, 1) := by decide +kernel
theorem dX3_answeredGood_0 : decode cX3_answeredGood 0 = .ok (.aload_n 0, 1) := by decide +kernel
theorem dX3_answeredGood_1 : decode cX3_answeredGood 1 = .ok (.getfield 36, 3) := by decide +kernel
theorem dX3_answeredGood_4 : decode cX3_answeredGood 4 = .ok (.invokevirtual 93, 3) := by decide +kernel
theorem dX3_answeredGood_7 : decode cX3_answeredGood 7 = .ok (.aload_n 0, 1) := by decide +kernel
theorem dX3_answeredGood_8 : decode cX3_answeredGood 8 = .ok (.iload_n 1, 1) := by decide +kernel
theorem dX3_answeredGood_9 : decode cX3_answeredGood 9 = .ok (.iload_n 2, 1) := by decide +kernel
theorem dX3_answeredGood_10 : decode cX3_answeredGood 10 = .ok (.invokevirtual 101, 3) := by decide +kernel
theorem dX3_answeredGood_13 : decode cX3_answeredGood 13 = .ok (.aload_n 0, 1) := by decide +kernel
theorem dX3_answeredGood_14 : decode cX3_answeredGood 14 = .ok (.getfield 32, 3) := by decide +kernel
theorem dX3_answeredGood_17 : decode cX3_answeredGood 17 = .ok (.iload_n 1, 1) := by decide +kernel
theorem dX3_answeredGood_18 : decode cX3_answeredGood 18 = .ok (.invokevirtual 44, 3) := by decide +kernel
theorem dX3_answeredGood_21 : decode cX3_answeredGood 21 = .ok (.istore_n 3, 1) := by decide +kernel
theorem dX3_answeredGood_22 : decode cX3_answeredGood 22 = .ok (.ldc 104, 2) := by decide +kernel
theorem dX3_answeredGood_24 : decode cX3_answeredGood 24 = .ok (.istore 4, 2) := by decide +kernel
theorem dX3_answeredGood_26 : decode cX3_answeredGood 26 = .ok (.iconst 0, 1) := by decide +kernel
theorem dX3_answeredGood_27 : decode cX3_answeredGood 27 = .ok (.istore 5, 2) := by decide +kernel
theorem dX3_answeredGood_29 : decode cX3_answeredGood 29 = .ok (.iload 5, 2) := by decide +kernel
theorem dX3_answeredGood_31 : decode cX3_answeredGood 31 = .ok (.aload_n 0, 1) := by decide +kernel
theorem dX3_answeredGood_32 : decode cX3_answeredGood 32 = .ok (.getfield 32, 3) := by decide +kernel
theorem dX3_answeredGood_35 : decode cX3_answeredGood 35 = .ok (.invokevirtual 58, 3) := by decide +kernel
theorem dX3_answeredGood_38 : decode cX3_answeredGood 38 = .ok (.if_icmp .ge 43, 3) := by decide +kernel
theorem dX3_answeredGood_41 : decode cX3_answeredGood 41 = .ok (.iload 5, 2) := by decide +kernel
theorem dX3_answeredGood_43 : decode cX3_answeredGood 43 = .ok (.iload_n 3, 1) := by decide +kernel
theorem dX3_answeredGood_44 : decode cX3_answeredGood 44 = .ok (.iconst (-1), 1) := by decide +kernel
theorem dX3_answeredGood_45 : decode cX3_answeredGood 45 = .ok (.ixor, 1) := by decide +kernel
theorem dX3_answeredGood_46 : decode cX3_answeredGood 46 = .ok (.iand, 1) := by decide +kernel
theorem dX3_answeredGood_47 : decode cX3_answeredGood 47 = .ok (.ifCond .ne 28, 3) := by decide +kernel
theorem dX3_answeredGood_50 : decode cX3_answeredGood 50 = .ok (.aload_n 0, 1) := by decide +kernel
theorem dX3_answeredGood_51 : decode cX3_answeredGood 51 = .ok (.getfield 9, 3) := by decide +kernel
theorem dX3_answeredGood_54 : decode cX3_answeredGood 54 = .ok (.iload 5, 2) := by decide +kernel
theorem dX3_answeredGood_56 : decode cX3_answeredGood 56 = .ok (.iaload, 1) := by decide +kernel
theorem dX3_answeredGood_57 : decode cX3_answeredGood 57 = .ok (.iload_n 2, 1) := by decide +kernel
theorem dX3_answeredGood_58 : decode cX3_answeredGood 58 = .ok (.if_icmp .gt 17, 3) := by decide +kernel
theorem dX3_answeredGood_61 : decode cX3_answeredGood 61 = .ok (.iload 4, 2) := by decide +kernel
theorem dX3_answeredGood_63 : decode cX3_answeredGood 63 = .ok (.aload_n 0, 1) := by decide +kernel
theorem dX3_answeredGood_64 : decode cX3_answeredGood 64 = .ok (.getfield 26, 3) := by decide +kernel
theorem dX3_answeredGood_67 : decode cX3_answeredGood 67 = .ok (.iload 5, 2) := by decide +kernel
theorem dX3_answeredGood_69 : decode cX3_answeredGood 69 = .ok (.iaload, 1) := by decide +kernel
theorem dX3_answeredGood_70 : decode cX3_answeredGood 70 = .ok (.invokestatic 105, 3) := by decide +kernel
theorem dX3_answeredGood_73 : decode cX3_answeredGood 73 = .ok (.istore 4, 2) := by decide +kernel
theorem dX3_answeredGood_75 : decode cX3_answeredGood 75 = .ok (.iinc 5 1, 3) := by decide +kernel
theorem dX3_answeredGood_78 : decode cX3_answeredGood 78 = .ok (.goto (-49), 3) := by decide +kernel
theorem dX3_answeredGood_81 : decode cX3_answeredGood 81 = .ok (.iload 4, 2) := by decide +kernel
theorem dX3_answeredGood_83 : decode cX3_answeredGood 83 = .ok (.ireturn, 1) := by decide +kernel
theorem dX3_countRests_0 : decode cX3_countRests 0 = .ok (.aload_n 0, 1) := by decide +kernel
theorem dX3_countRests_1 : decode cX3_countRests 1 = .ok (.getfield 36, 3) := by decide +kernel
theorem dX3_countRests_4 : decode cX3_countRests 4 = .ok (.invokevirtual 93, 3) := by decide +kernel
theorem dX3_countRests_7 : decode cX3_countRests 7 = .ok (.aload_n 0, 1) := by decide +kernel
theorem dX3_countRests_8 : decode cX3_countRests 8 = .ok (.iconst 0, 1) := by decide +kernel
theorem dX3_countRests_9 : decode cX3_countRests 9 = .ok (.iload_n 1, 1) := by decide +kernel
theorem dX3_countRests_10 : decode cX3_countRests 10 = .ok (.invokevirtual 101, 3) := by decide +kernel
theorem dX3_countRests_13 : decode cX3_countRests 13 = .ok (.aload_n 0, 1) := by decide +kernel
theorem dX3_countRests_14 : decode cX3_countRests 14 = .ok (.getfield 32, 3) := by decide +kernel
theorem dX3_countRests_17 : decode cX3_countRests 17 = .ok (.iconst 0, 1) := by decide +kernel
theorem dX3_countRests_18 : decode cX3_countRests 18 = .ok (.invokevirtual 44, 3) := by decide +kernel
theorem dX3_countRests_21 : decode cX3_countRests 21 = .ok (.istore_n 2, 1) := by decide +kernel
theorem dX3_countRests_22 : decode cX3_countRests 22 = .ok (.iconst 0, 1) := by decide +kernel
theorem dX3_countRests_23 : decode cX3_countRests 23 = .ok (.istore_n 3, 1) := by decide +kernel
theorem dX3_countRests_24 : decode cX3_countRests 24 = .ok (.iconst 0, 1) := by decide +kernel
theorem dX3_countRests_25 : decode cX3_countRests 25 = .ok (.istore 4, 2) := by decide +kernel
theorem dX3_countRests_27 : decode cX3_countRests 27 = .ok (.iload 4, 2) := by decide +kernel
theorem dX3_countRests_29 : decode cX3_countRests 29 = .ok (.aload_n 0, 1) := by decide +kernel
theorem dX3_countRests_30 : decode cX3_countRests 30 = .ok (.getfield 32, 3) := by decide +kernel
theorem dX3_countRests_33 : decode cX3_countRests 33 = .ok (.invokevirtual 58, 3) := by decide +kernel
theorem dX3_countRests_36 : decode cX3_countRests 36 = .ok (.if_icmp .ge 65, 3) := by decide +kernel
theorem dX3_countRests_39 : decode cX3_countRests 39 = .ok (.aload_n 0, 1) := by decide +kernel
theorem dX3_countRests_40 : decode cX3_countRests 40 = .ok (.getfield 36, 3) := by decide +kernel
theorem dX3_countRests_43 : decode cX3_countRests 43 = .ok (.iconst 0, 1) := by decide +kernel
theorem dX3_countRests_44 : decode cX3_countRests 44 = .ok (.iload 4, 2) := by decide +kernel
theorem dX3_countRests_46 : decode cX3_countRests 46 = .ok (.invokevirtual 98, 3) := by decide +kernel
theorem dX3_countRests_49 : decode cX3_countRests 49 = .ok (.istore 5, 2) := by decide +kernel
theorem dX3_countRests_51 : decode cX3_countRests 51 = .ok (.aload_n 0, 1) := by decide +kernel
theorem dX3_countRests_52 : decode cX3_countRests 52 = .ok (.iload 4, 2) := by decide +kernel
theorem dX3_countRests_54 : decode cX3_countRests 54 = .ok (.iload_n 2, 1) := by decide +kernel
theorem dX3_countRests_55 : decode cX3_countRests 55 = .ok (.iload_n 1, 1) := by decide +kernel
theorem dX3_countRests_56 : decode cX3_countRests 56 = .ok (.invokevirtual 110, 3) := by decide +kernel
theorem dX3_countRests_59 : decode cX3_countRests 59 = .ok (.ifCond .eq 36, 3) := by decide +kernel
theorem dX3_countRests_62 : decode cX3_countRests 62 = .ok (.iload 5, 2) := by decide +kernel
theorem dX3_countRests_64 : decode cX3_countRests 64 = .ok (.aload_n 0, 1) := by decide +kernel
theorem dX3_countRests_65 : decode cX3_countRests 65 = .ok (.getfield 26, 3) := by decide +kernel
theorem dX3_countRests_68 : decode cX3_countRests 68 = .ok (.iload 4, 2) := by decide +kernel
theorem dX3_countRests_70 : decode cX3_countRests 70 = .ok (.iload_n 2, 1) := by decide +kernel
theorem dX3_countRests_71 : decode cX3_countRests 71 = .ok (.iand, 1) := by decide +kernel
theorem dX3_countRests_72 : decode cX3_countRests 72 = .ok (.iaload, 1) := by decide +kernel
theorem dX3_countRests_73 : decode cX3_countRests 73 = .ok (.if_icmp .ne 22, 3) := by decide +kernel
theorem dX3_countRests_76 : decode cX3_countRests 76 = .ok (.iload 5, 2) := by decide +kernel
theorem dX3_countRests_78 : decode cX3_countRests 78 = .ok (.aload_n 0, 1) := by decide +kernel
theorem dX3_countRests_79 : decode cX3_countRests 79 = .ok (.getfield 29, 3) := by decide +kernel
theorem dX3_countRests_82 : decode cX3_countRests 82 = .ok (.iload 4, 2) := by decide +kernel
theorem dX3_countRests_84 : decode cX3_countRests 84 = .ok (.iload_n 2, 1) := by decide +kernel
theorem dX3_countRests_85 : decode cX3_countRests 85 = .ok (.iconst (-1), 1) := by decide +kernel
theorem dX3_countRests_86 : decode cX3_countRests 86 = .ok (.ixor, 1) := by decide +kernel
theorem dX3_countRests_87 : decode cX3_countRests 87 = .ok (.iand, 1) := by decide +kernel
theorem dX3_countRests_88 : decode cX3_countRests 88 = .ok (.iaload, 1) := by decide +kernel
theorem dX3_countRests_89 : decode cX3_countRests 89 = .ok (.if_icmp .ne 6, 3) := by decide +kernel
theorem dX3_countRests_92 : decode cX3_countRests 92 = .ok (.iinc 3 1, 3) := by decide +kernel
theorem dX3_countRests_95 : decode cX3_countRests 95 = .ok (.iinc 4 1, 3) := by decide +kernel
theorem dX3_countRests_98 : decode cX3_countRests 98 = .ok (.goto (-71), 3) := by decide +kernel
theorem dX3_countRests_101 : decode cX3_countRests 101 = .ok (.iload_n 3, 1) := by decide +kernel
theorem dX3_countRests_102 : decode cX3_countRests 102 = .ok (.ireturn, 1) := by decide +kernel
theorem dX3_meetAnswers_0 : decode cX3_meetAnswers 0 = .ok (.aload_n 0, 1) := by decide +kernel
theorem dX3_meetAnswers_1 : decode cX3_meetAnswers 1 = .ok (.invokevirtual 67, 3) := by decide +kernel
theorem dX3_meetAnswers_4 : decode cX3_meetAnswers 4 = .ok (.aload_n 0, 1) := by decide +kernel
theorem dX3_meetAnswers_5 : decode cX3_meetAnswers 5 = .ok (.getfield 26, 3) := by decide +kernel
theorem dX3_meetAnswers_8 : decode cX3_meetAnswers 8 = .ok (.ldc 114, 2) := by decide +kernel
theorem dX3_meetAnswers_10 : decode cX3_meetAnswers 10 = .ok (.invokestatic 115, 3) := by decide +kernel
theorem dX3_meetAnswers_13 : decode cX3_meetAnswers 13 = .ok (.aload_n 0, 1) := by decide +kernel
theorem dX3_meetAnswers_14 : decode cX3_meetAnswers 14 = .ok (.getfield 29, 3) := by decide +kernel
theorem dX3_meetAnswers_17 : decode cX3_meetAnswers 17 = .ok (.ldc 104, 2) := by decide +kernel
theorem dX3_meetAnswers_19 : decode cX3_meetAnswers 19 = .ok (.invokestatic 115, 3) := by decide +kernel
theorem dX3_meetAnswers_22 : decode cX3_meetAnswers 22 = .ok (.aload_n 0, 1) := by decide +kernel
theorem dX3_meetAnswers_23 : decode cX3_meetAnswers 23 = .ok (.getfield 32, 3) := by decide +kernel
theorem dX3_meetAnswers_26 : decode cX3_meetAnswers 26 = .ok (.iload_n 1, 1) := by decide +kernel
theorem dX3_meetAnswers_27 : decode cX3_meetAnswers 27 = .ok (.invokevirtual 44, 3) := by decide +kernel
theorem dX3_meetAnswers_30 : decode cX3_meetAnswers 30 = .ok (.istore_n 3, 1) := by decide +kernel
theorem dX3_meetAnswers_31 : decode cX3_meetAnswers 31 = .ok (.iconst 0, 1) := by decide +kernel
theorem dX3_meetAnswers_32 : decode cX3_meetAnswers 32 = .ok (.istore 4, 2) := by decide +kernel
theorem dX3_meetAnswers_34 : decode cX3_meetAnswers 34 = .ok (.iload 4, 2) := by decide +kernel
theorem dX3_meetAnswers_36 : decode cX3_meetAnswers 36 = .ok (.aload_n 0, 1) := by decide +kernel
theorem dX3_meetAnswers_37 : decode cX3_meetAnswers 37 = .ok (.getfield 32, 3) := by decide +kernel
theorem dX3_meetAnswers_40 : decode cX3_meetAnswers 40 = .ok (.invokevirtual 58, 3) := by decide +kernel
theorem dX3_meetAnswers_43 : decode cX3_meetAnswers 43 = .ok (.if_icmp .ge 82, 3) := by decide +kernel
theorem dX3_meetAnswers_46 : decode cX3_meetAnswers 46 = .ok (.aload_n 0, 1) := by decide +kernel
theorem dX3_meetAnswers_47 : decode cX3_meetAnswers 47 = .ok (.iload 4, 2) := by decide +kernel
theorem dX3_meetAnswers_49 : decode cX3_meetAnswers 49 = .ok (.iload_n 3, 1) := by decide +kernel
theorem dX3_meetAnswers_50 : decode cX3_meetAnswers 50 = .ok (.iload_n 2, 1) := by decide +kernel
theorem dX3_meetAnswers_51 : decode cX3_meetAnswers 51 = .ok (.invokevirtual 110, 3) := by decide +kernel
theorem dX3_meetAnswers_54 : decode cX3_meetAnswers 54 = .ok (.ifCond .eq 65, 3) := by decide +kernel
theorem dX3_meetAnswers_57 : decode cX3_meetAnswers 57 = .ok (.aload_n 0, 1) := by decide +kernel
theorem dX3_meetAnswers_58 : decode cX3_meetAnswers 58 = .ok (.getfield 36, 3) := by decide +kernel
theorem dX3_meetAnswers_61 : decode cX3_meetAnswers 61 = .ok (.iload_n 1, 1) := by decide +kernel
theorem dX3_meetAnswers_62 : decode cX3_meetAnswers 62 = .ok (.iload 4, 2) := by decide +kernel
theorem dX3_meetAnswers_64 : decode cX3_meetAnswers 64 = .ok (.invokevirtual 98, 3) := by decide +kernel
theorem dX3_meetAnswers_67 : decode cX3_meetAnswers 67 = .ok (.istore 5, 2) := by decide +kernel
theorem dX3_meetAnswers_69 : decode cX3_meetAnswers 69 = .ok (.aload_n 0, 1) := by decide +kernel
theorem dX3_meetAnswers_70 : decode cX3_meetAnswers 70 = .ok (.getfield 26, 3) := by decide +kernel
theorem dX3_meetAnswers_73 : decode cX3_meetAnswers 73 = .ok (.iload 4, 2) := by decide +kernel
theorem dX3_meetAnswers_75 : decode cX3_meetAnswers 75 = .ok (.iload_n 3, 1) := by decide +kernel
theorem dX3_meetAnswers_76 : decode cX3_meetAnswers 76 = .ok (.iand, 1) := by decide +kernel
theorem dX3_meetAnswers_77 : decode cX3_meetAnswers 77 = .ok (.aload_n 0, 1) := by decide +kernel
theorem dX3_meetAnswers_78 : decode cX3_meetAnswers 78 = .ok (.getfield 26, 3) := by decide +kernel
theorem dX3_meetAnswers_81 : decode cX3_meetAnswers 81 = .ok (.iload 4, 2) := by decide +kernel
theorem dX3_meetAnswers_83 : decode cX3_meetAnswers 83 = .ok (.iload_n 3, 1) := by decide +kernel
theorem dX3_meetAnswers_84 : decode cX3_meetAnswers 84 = .ok (.iand, 1) := by decide +kernel
theorem dX3_meetAnswers_85 : decode cX3_meetAnswers 85 = .ok (.iaload, 1) := by decide +kernel
theorem dX3_meetAnswers_86 : decode cX3_meetAnswers 86 = .ok (.iload 5, 2) := by decide +kernel
theorem dX3_meetAnswers_88 : decode cX3_meetAnswers 88 = .ok (.invokestatic 121, 3) := by decide +kernel
theorem dX3_meetAnswers_91 : decode cX3_meetAnswers 91 = .ok (.iastore, 1) := by decide +kernel
theorem dX3_meetAnswers_92 : decode cX3_meetAnswers 92 = .ok (.aload_n 0, 1) := by decide +kernel
theorem dX3_meetAnswers_93 : decode cX3_meetAnswers 93 = .ok (.getfield 29, 3) := by decide +kernel
theorem dX3_meetAnswers_96 : decode cX3_meetAnswers 96 = .ok (.iload 4, 2) := by decide +kernel
theorem dX3_meetAnswers_98 : decode cX3_meetAnswers 98 = .ok (.iload_n 3, 1) := by decide +kernel
theorem dX3_meetAnswers_99 : decode cX3_meetAnswers 99 = .ok (.iconst (-1), 1) := by decide +kernel
theorem dX3_meetAnswers_100 : decode cX3_meetAnswers 100 = .ok (.ixor, 1) := by decide +kernel
theorem dX3_meetAnswers_101 : decode cX3_meetAnswers 101 = .ok (.iand, 1) := by decide +kernel
theorem dX3_meetAnswers_102 : decode cX3_meetAnswers 102 = .ok (.aload_n 0, 1) := by decide +kernel
theorem dX3_meetAnswers_103 : decode cX3_meetAnswers 103 = .ok (.getfield 29, 3) := by decide +kernel
theorem dX3_meetAnswers_106 : decode cX3_meetAnswers 106 = .ok (.iload 4, 2) := by decide +kernel
theorem dX3_meetAnswers_108 : decode cX3_meetAnswers 108 = .ok (.iload_n 3, 1) := by decide +kernel
theorem dX3_meetAnswers_109 : decode cX3_meetAnswers 109 = .ok (.iconst (-1), 1) := by decide +kernel
theorem dX3_meetAnswers_110 : decode cX3_meetAnswers 110 = .ok (.ixor, 1) := by decide +kernel
theorem dX3_meetAnswers_111 : decode cX3_meetAnswers 111 = .ok (.iand, 1) := by decide +kernel
theorem dX3_meetAnswers_112 : decode cX3_meetAnswers 112 = .ok (.iaload, 1) := by decide +kernel
theorem dX3_meetAnswers_113 : decode cX3_meetAnswers 113 = .ok (.iload 5, 2) := by decide +kernel
theorem dX3_meetAnswers_115 : decode cX3_meetAnswers 115 = .ok (.invokestatic 105, 3) := by decide +kernel
theorem dX3_meetAnswers_118 : decode cX3_meetAnswers 118 = .ok (.iastore, 1) := by decide +kernel
theorem dX3_meetAnswers_119 : decode cX3_meetAnswers 119 = .ok (.iinc 4 1, 3) := by decide +kernel
theorem dX3_meetAnswers_122 : decode cX3_meetAnswers 122 = .ok (.goto (-88), 3) := by decide +kernel
theorem dX3_meetAnswers_125 : decode cX3_meetAnswers 125 = .ok (.return_, 1) := by decide +kernel
theorem dX3_isBought_0 : decode cX3_isBought 0 = .ok (.iload_n 1, 1) := by decide +kernel
theorem dX3_isBought_1 : decode cX3_isBought 1 = .ok (.ifCond .lt 40, 3) := by decide +kernel
theorem dX3_isBought_4 : decode cX3_isBought 4 = .ok (.iload_n 1, 1) := by decide +kernel
theorem dX3_isBought_5 : decode cX3_isBought 5 = .ok (.sipush 512, 3) := by decide +kernel
theorem dX3_isBought_8 : decode cX3_isBought 8 = .ok (.if_icmp .ge 33, 3) := by decide +kernel
theorem dX3_isBought_11 : decode cX3_isBought 11 = .ok (.aload_n 0, 1) := by decide +kernel
theorem dX3_isBought_12 : decode cX3_isBought 12 = .ok (.getfield 9, 3) := by decide +kernel
theorem dX3_isBought_15 : decode cX3_isBought 15 = .ok (.iload_n 1, 1) := by decide +kernel
theorem dX3_isBought_16 : decode cX3_isBought 16 = .ok (.iload_n 2, 1) := by decide +kernel
theorem dX3_isBought_17 : decode cX3_isBought 17 = .ok (.iand, 1) := by decide +kernel
theorem dX3_isBought_18 : decode cX3_isBought 18 = .ok (.iaload, 1) := by decide +kernel
theorem dX3_isBought_19 : decode cX3_isBought 19 = .ok (.iload_n 3, 1) := by decide +kernel
theorem dX3_isBought_20 : decode cX3_isBought 20 = .ok (.if_icmp .gt 21, 3) := by decide +kernel
theorem dX3_isBought_23 : decode cX3_isBought 23 = .ok (.aload_n 0, 1) := by decide +kernel
theorem dX3_isBought_24 : decode cX3_isBought 24 = .ok (.getfield 9, 3) := by decide +kernel
theorem dX3_isBought_27 : decode cX3_isBought 27 = .ok (.iload_n 1, 1) := by decide +kernel
theorem dX3_isBought_28 : decode cX3_isBought 28 = .ok (.iload_n 2, 1) := by decide +kernel
theorem dX3_isBought_29 : decode cX3_isBought 29 = .ok (.iconst (-1), 1) := by decide +kernel
theorem dX3_isBought_30 : decode cX3_isBought 30 = .ok (.ixor, 1) := by decide +kernel
theorem dX3_isBought_31 : decode cX3_isBought 31 = .ok (.iand, 1) := by decide +kernel
theorem dX3_isBought_32 : decode cX3_isBought 32 = .ok (.iaload, 1) := by decide +kernel
theorem dX3_isBought_33 : decode cX3_isBought 33 = .ok (.iload_n 3, 1) := by decide +kernel
theorem dX3_isBought_34 : decode cX3_isBought 34 = .ok (.if_icmp .gt 7, 3) := by decide +kernel
theorem dX3_isBought_37 : decode cX3_isBought 37 = .ok (.iconst 1, 1) := by decide +kernel
theorem dX3_isBought_38 : decode cX3_isBought 38 = .ok (.goto 4, 3) := by decide +kernel
theorem dX3_isBought_41 : decode cX3_isBought 41 = .ok (.iconst 0, 1) := by decide +kernel
theorem dX3_isBought_42 : decode cX3_isBought 42 = .ok (.ireturn, 1) := by decide +kernel
theorem dX3_takePrices_0 : decode cX3_takePrices 0 = .ok (.aload_n 0, 1) := by decide +kernel
theorem dX3_takePrices_1 : decode cX3_takePrices 1 = .ok (.getfield 9, 3) := by decide +kernel
theorem dX3_takePrices_4 : decode cX3_takePrices 4 = .ok (.iconst 0, 1) := by decide +kernel
theorem dX3_takePrices_5 : decode cX3_takePrices 5 = .ok (.iconst 0, 1) := by decide +kernel
theorem dX3_takePrices_6 : decode cX3_takePrices 6 = .ok (.iastore, 1) := by decide +kernel
theorem dX3_takePrices_7 : decode cX3_takePrices 7 = .ok (.iconst 0, 1) := by decide +kernel
theorem dX3_takePrices_8 : decode cX3_takePrices 8 = .ok (.istore_n 1, 1) := by decide +kernel
theorem dX3_takePrices_9 : decode cX3_takePrices 9 = .ok (.iload_n 1, 1) := by decide +kernel
theorem dX3_takePrices_10 : decode cX3_takePrices 10 = .ok (.aload_n 0, 1) := by decide +kernel
theorem dX3_takePrices_11 : decode cX3_takePrices 11 = .ok (.getfield 32, 3) := by decide +kernel
theorem dX3_takePrices_14 : decode cX3_takePrices 14 = .ok (.getfield 79, 3) := by decide +kernel
theorem dX3_takePrices_17 : decode cX3_takePrices 17 = .ok (.getfield 83, 3) := by decide +kernel
theorem dX3_takePrices_20 : decode cX3_takePrices 20 = .ok (.if_icmp .ge 29, 3) := by decide +kernel
theorem dX3_takePrices_23 : decode cX3_takePrices 23 = .ok (.aload_n 0, 1) := by decide +kernel
theorem dX3_takePrices_24 : decode cX3_takePrices 24 = .ok (.getfield 9, 3) := by decide +kernel
theorem dX3_takePrices_27 : decode cX3_takePrices 27 = .ok (.iload_n 1, 1) := by decide +kernel
theorem dX3_takePrices_28 : decode cX3_takePrices 28 = .ok (.aload_n 0, 1) := by decide +kernel
theorem dX3_takePrices_29 : decode cX3_takePrices 29 = .ok (.getfield 32, 3) := by decide +kernel
theorem dX3_takePrices_32 : decode cX3_takePrices 32 = .ok (.getfield 79, 3) := by decide +kernel
theorem dX3_takePrices_35 : decode cX3_takePrices 35 = .ok (.iload_n 1, 1) := by decide +kernel
theorem dX3_takePrices_36 : decode cX3_takePrices 36 = .ok (.iconst 5, 1) := by decide +kernel
theorem dX3_takePrices_37 : decode cX3_takePrices 37 = .ok (.invokevirtual 124, 3) := by decide +kernel
theorem dX3_takePrices_40 : decode cX3_takePrices 40 = .ok (.invokestatic 127, 3) := by decide +kernel
theorem dX3_takePrices_43 : decode cX3_takePrices 43 = .ok (.iinc 1 1, 3) := by decide +kernel
theorem dX3_takePrices_46 : decode cX3_takePrices 46 = .ok (.goto (-37), 3) := by decide +kernel
theorem dX3_takePrices_49 : decode cX3_takePrices 49 = .ok (.return_, 1) := by decide +kernel
theorem dX3_fitByDelays_0 : decode cX3_fitByDelays 0 = .ok (.aload_n 0, 1) := by decide +kernel
theorem dX3_fitByDelays_1 : decode cX3_fitByDelays 1 = .ok (.getfield 15, 3) := by decide +kernel
theorem dX3_fitByDelays_4 : decode cX3_fitByDelays 4 = .ok (.iconst 0, 1) := by decide +kernel
theorem dX3_fitByDelays_5 : decode cX3_fitByDelays 5 = .ok (.aload_n 0, 1) := by decide +kernel
theorem dX3_fitByDelays_6 : decode cX3_fitByDelays 6 = .ok (.getfield 32, 3) := by decide +kernel
theorem dX3_fitByDelays_9 : decode cX3_fitByDelays 9 = .ok (.iload_n 1, 1) := by decide +kernel
theorem dX3_fitByDelays_10 : decode cX3_fitByDelays 10 = .ok (.aload_n 0, 1) := by decide +kernel
theorem dX3_fitByDelays_11 : decode cX3_fitByDelays 11 = .ok (.getfield 32, 3) := by decide +kernel
theorem dX3_fitByDelays_14 : decode cX3_fitByDelays 14 = .ok (.getfield 131, 3) := by decide +kernel
theorem dX3_fitByDelays_17 : decode cX3_fitByDelays 17 = .ok (.iconst 0, 1) := by decide +kernel
theorem dX3_fitByDelays_18 : decode cX3_fitByDelays 18 = .ok (.invokevirtual 134, 3) := by decide +kernel
theorem dX3_fitByDelays_21 : decode cX3_fitByDelays 21 = .ok (.iastore, 1) := by decide +kernel
theorem dX3_fitByDelays_22 : decode cX3_fitByDelays 22 = .ok (.iconst 0, 1) := by decide +kernel
theorem dX3_fitByDelays_23 : decode cX3_fitByDelays 23 = .ok (.istore_n 2, 1) := by decide +kernel
theorem dX3_fitByDelays_24 : decode cX3_fitByDelays 24 = .ok (.iload_n 2, 1) := by decide +kernel
theorem dX3_fitByDelays_25 : decode cX3_fitByDelays 25 = .ok (.aload_n 0, 1) := by decide +kernel
theorem dX3_fitByDelays_26 : decode cX3_fitByDelays 26 = .ok (.getfield 32, 3) := by decide +kernel
theorem dX3_fitByDelays_29 : decode cX3_fitByDelays 29 = .ok (.getfield 79, 3) := by decide +kernel
theorem dX3_fitByDelays_32 : decode cX3_fitByDelays 32 = .ok (.getfield 83, 3) := by decide +kernel
theorem dX3_fitByDelays_35 : decode cX3_fitByDelays 35 = .ok (.if_icmp .ge 63, 3) := by decide +kernel
theorem dX3_fitByDelays_38 : decode cX3_fitByDelays 38 = .ok (.aload_n 0, 1) := by decide +kernel
theorem dX3_fitByDelays_39 : decode cX3_fitByDelays 39 = .ok (.getfield 32, 3) := by decide +kernel
theorem dX3_fitByDelays_42 : decode cX3_fitByDelays 42 = .ok (.getfield 79, 3) := by decide +kernel
theorem dX3_fitByDelays_45 : decode cX3_fitByDelays 45 = .ok (.iload_n 2, 1) := by decide +kernel
theorem dX3_fitByDelays_46 : decode cX3_fitByDelays 46 = .ok (.iconst 0, 1) := by decide +kernel
theorem dX3_fitByDelays_47 : decode cX3_fitByDelays 47 = .ok (.invokevirtual 124, 3) := by decide +kernel
theorem dX3_fitByDelays_50 : decode cX3_fitByDelays 50 = .ok (.iload_n 1, 1) := by decide +kernel
theorem dX3_fitByDelays_51 : decode cX3_fitByDelays 51 = .ok (.if_icmp .ne 7, 3) := by decide +kernel
theorem dX3_fitByDelays_54 : decode cX3_fitByDelays 54 = .ok (.iconst 1, 1) := by decide +kernel
theorem dX3_fitByDelays_55 : decode cX3_fitByDelays 55 = .ok (.goto 4, 3) := by decide +kernel
theorem dX3_fitByDelays_58 : decode cX3_fitByDelays 58 = .ok (.iconst 0, 1) := by decide +kernel
theorem dX3_fitByDelays_59 : decode cX3_fitByDelays 59 = .ok (.istore_n 3, 1) := by decide +kernel
theorem dX3_fitByDelays_60 : decode cX3_fitByDelays 60 = .ok (.aload_n 0, 1) := by decide +kernel
theorem dX3_fitByDelays_61 : decode cX3_fitByDelays 61 = .ok (.getfield 15, 3) := by decide +kernel
theorem dX3_fitByDelays_64 : decode cX3_fitByDelays 64 = .ok (.iload_n 2, 1) := by decide +kernel
theorem dX3_fitByDelays_65 : decode cX3_fitByDelays 65 = .ok (.iload_n 3, 1) := by decide +kernel
theorem dX3_fitByDelays_66 : decode cX3_fitByDelays 66 = .ok (.ifCond .eq 22, 3) := by decide +kernel
theorem dX3_fitByDelays_69 : decode cX3_fitByDelays 69 = .ok (.aload_n 0, 1) := by decide +kernel
theorem dX3_fitByDelays_70 : decode cX3_fitByDelays 70 = .ok (.getfield 32, 3) := by decide +kernel
theorem dX3_fitByDelays_73 : decode cX3_fitByDelays 73 = .ok (.iload_n 2, 1) := by decide +kernel
theorem dX3_fitByDelays_74 : decode cX3_fitByDelays 74 = .ok (.aload_n 0, 1) := by decide +kernel
theorem dX3_fitByDelays_75 : decode cX3_fitByDelays 75 = .ok (.getfield 32, 3) := by decide +kernel
theorem dX3_fitByDelays_78 : decode cX3_fitByDelays 78 = .ok (.getfield 131, 3) := by decide +kernel
theorem dX3_fitByDelays_81 : decode cX3_fitByDelays 81 = .ok (.invokevirtual 138, 3) := by decide +kernel
theorem dX3_fitByDelays_84 : decode cX3_fitByDelays 84 = .ok (.ineg, 1) := by decide +kernel
theorem dX3_fitByDelays_85 : decode cX3_fitByDelays 85 = .ok (.goto 4, 3) := by decide +kernel
theorem dX3_fitByDelays_88 : decode cX3_fitByDelays 88 = .ok (.iconst 0, 1) := by decide +kernel
theorem dX3_fitByDelays_89 : decode cX3_fitByDelays 89 = .ok (.invokestatic 127, 3) := by decide +kernel
theorem dX3_fitByDelays_92 : decode cX3_fitByDelays 92 = .ok (.iinc 2 1, 3) := by decide +kernel
theorem dX3_fitByDelays_95 : decode cX3_fitByDelays 95 = .ok (.goto (-71), 3) := by decide +kernel
theorem dX3_fitByDelays_98 : decode cX3_fitByDelays 98 = .ok (.iconst 0, 1) := by decide +kernel
theorem dX3_fitByDelays_99 : decode cX3_fitByDelays 99 = .ok (.istore_n 2, 1) := by decide +kernel
theorem dX3_fitByDelays_100 : decode cX3_fitByDelays 100 = .ok (.iload_n 2, 1) := by decide +kernel
theorem dX3_fitByDelays_101 : decode cX3_fitByDelays 101 = .ok (.aload_n 0, 1) := by decide +kernel
theorem dX3_fitByDelays_102 : decode cX3_fitByDelays 102 = .ok (.getfield 32, 3) := by decide +kernel
theorem dX3_fitByDelays_105 : decode cX3_fitByDelays 105 = .ok (.invokevirtual 58, 3) := by decide +kernel
theorem dX3_fitByDelays_108 : decode cX3_fitByDelays 108 = .ok (.if_icmp .ge 37, 3) := by decide +kernel
theorem dX3_fitByDelays_111 : decode cX3_fitByDelays 111 = .ok (.aload_n 0, 1) := by decide +kernel
theorem dX3_fitByDelays_112 : decode cX3_fitByDelays 112 = .ok (.getfield 22, 3) := by decide +kernel
theorem dX3_fitByDelays_115 : decode cX3_fitByDelays 115 = .ok (.iload_n 2, 1) := by decide +kernel
theorem dX3_fitByDelays_116 : decode cX3_fitByDelays 116 = .ok (.aload_n 0, 1) := by decide +kernel
theorem dX3_fitByDelays_117 : decode cX3_fitByDelays 117 = .ok (.getfield 15, 3) := by decide +kernel
theorem dX3_fitByDelays_120 : decode cX3_fitByDelays 120 = .ok (.iload_n 2, 1) := by decide +kernel
theorem dX3_fitByDelays_121 : decode cX3_fitByDelays 121 = .ok (.iaload, 1) := by decide +kernel
theorem dX3_fitByDelays_122 : decode cX3_fitByDelays 122 = .ok (.aload_n 0, 1) := by decide +kernel
theorem dX3_fitByDelays_123 : decode cX3_fitByDelays 123 = .ok (.getfield 32, 3) := by decide +kernel
theorem dX3_fitByDelays_126 : decode cX3_fitByDelays 126 = .ok (.iload_n 1, 1) := by decide +kernel
theorem dX3_fitByDelays_127 : decode cX3_fitByDelays 127 = .ok (.invokevirtual 141, 3) := by decide +kernel
theorem dX3_fitByDelays_130 : decode cX3_fitByDelays 130 = .ok (.if_icmp .ge 7, 3) := by decide +kernel
theorem dX3_fitByDelays_133 : decode cX3_fitByDelays 133 = .ok (.iconst 1, 1) := by decide +kernel
theorem dX3_fitByDelays_134 : decode cX3_fitByDelays 134 = .ok (.goto 4, 3) := by decide +kernel
theorem dX3_fitByDelays_137 : decode cX3_fitByDelays 137 = .ok (.iconst 0, 1) := by decide +kernel
theorem dX3_fitByDelays_138 : decode cX3_fitByDelays 138 = .ok (.bastore, 1) := by decide +kernel
theorem dX3_fitByDelays_139 : decode cX3_fitByDelays 139 = .ok (.iinc 2 1, 3) := by decide +kernel
theorem dX3_fitByDelays_142 : decode cX3_fitByDelays 142 = .ok (.goto (-42), 3) := by decide +kernel
theorem dX3_fitByDelays_145 : decode cX3_fitByDelays 145 = .ok (.return_, 1) := by decide +kernel
theorem dX3_fitByChance_0 : decode cX3_fitByChance 0 = .ok (.aload_n 0, 1) := by decide +kernel
theorem dX3_fitByChance_1 : decode cX3_fitByChance 1 = .ok (.iload_n 1, 1) := by decide +kernel
theorem dX3_fitByChance_2 : decode cX3_fitByChance 2 = .ok (.invokevirtual 40, 3) := by decide +kernel
theorem dX3_fitByChance_5 : decode cX3_fitByChance 5 = .ok (.aload_n 0, 1) := by decide +kernel
theorem dX3_fitByChance_6 : decode cX3_fitByChance 6 = .ok (.getfield 22, 3) := by decide +kernel
theorem dX3_fitByChance_9 : decode cX3_fitByChance 9 = .ok (.iconst 0, 1) := by decide +kernel
theorem dX3_fitByChance_10 : decode cX3_fitByChance 10 = .ok (.aload_n 0, 1) := by decide +kernel
theorem dX3_fitByChance_11 : decode cX3_fitByChance 11 = .ok (.getfield 18, 3) := by decide +kernel
theorem dX3_fitByChance_14 : decode cX3_fitByChance 14 = .ok (.iconst 0, 1) := by decide +kernel
theorem dX3_fitByChance_15 : decode cX3_fitByChance 15 = .ok (.laload, 1) := by decide +kernel
theorem dX3_fitByChance_16 : decode cX3_fitByChance 16 = .ok (.ldc2_w 144, 3) := by decide +kernel
theorem dX3_fitByChance_19 : decode cX3_fitByChance 19 = .ok (.lmul, 1) := by decide +kernel
theorem dX3_fitByChance_20 : decode cX3_fitByChance 20 = .ok (.iload_n 2, 1) := by decide +kernel
theorem dX3_fitByChance_21 : decode cX3_fitByChance 21 = .ok (.i2l, 1) := by decide +kernel
theorem dX3_fitByChance_22 : decode cX3_fitByChance 22 = .ok (.lcmp, 1) := by decide +kernel
theorem dX3_fitByChance_23 : decode cX3_fitByChance 23 = .ok (.ifCond .lt 7, 3) := by decide +kernel
theorem dX3_fitByChance_26 : decode cX3_fitByChance 26 = .ok (.iconst 1, 1) := by decide +kernel
theorem dX3_fitByChance_27 : decode cX3_fitByChance 27 = .ok (.goto 4, 3) := by decide +kernel
theorem dX3_fitByChance_30 : decode cX3_fitByChance 30 = .ok (.iconst 0, 1) := by decide +kernel
theorem dX3_fitByChance_31 : decode cX3_fitByChance 31 = .ok (.bastore, 1) := by decide +kernel
theorem dX3_fitByChance_32 : decode cX3_fitByChance 32 = .ok (.iconst 1, 1) := by decide +kernel
theorem dX3_fitByChance_33 : decode cX3_fitByChance 33 = .ok (.istore_n 3, 1) := by decide +kernel
theorem dX3_fitByChance_34 : decode cX3_fitByChance 34 = .ok (.iload_n 3, 1) := by decide +kernel
theorem dX3_fitByChance_35 : decode cX3_fitByChance 35 = .ok (.aload_n 0, 1) := by decide +kernel
theorem dX3_fitByChance_36 : decode cX3_fitByChance 36 = .ok (.getfield 32, 3) := by decide +kernel
theorem dX3_fitByChance_39 : decode cX3_fitByChance 39 = .ok (.invokevirtual 58, 3) := by decide +kernel
theorem dX3_fitByChance_42 : decode cX3_fitByChance 42 = .ok (.if_icmp .ge 42, 3) := by decide +kernel
theorem dX3_fitByChance_45 : decode cX3_fitByChance 45 = .ok (.aload_n 0, 1) := by decide +kernel
theorem dX3_fitByChance_46 : decode cX3_fitByChance 46 = .ok (.getfield 22, 3) := by decide +kernel
theorem dX3_fitByChance_49 : decode cX3_fitByChance 49 = .ok (.iload_n 3, 1) := by decide +kernel
theorem dX3_fitByChance_50 : decode cX3_fitByChance 50 = .ok (.aload_n 0, 1) := by decide +kernel
theorem dX3_fitByChance_51 : decode cX3_fitByChance 51 = .ok (.getfield 18, 3) := by decide +kernel
theorem dX3_fitByChance_54 : decode cX3_fitByChance 54 = .ok (.iload_n 3, 1) := by decide +kernel
theorem dX3_fitByChance_55 : decode cX3_fitByChance 55 = .ok (.laload, 1) := by decide +kernel
theorem dX3_fitByChance_56 : decode cX3_fitByChance 56 = .ok (.iload_n 2, 1) := by decide +kernel
theorem dX3_fitByChance_57 : decode cX3_fitByChance 57 = .ok (.i2l, 1) := by decide +kernel
theorem dX3_fitByChance_58 : decode cX3_fitByChance 58 = .ok (.iload_n 3, 1) := by decide +kernel
theorem dX3_fitByChance_59 : decode cX3_fitByChance 59 = .ok (.invokestatic 62, 3) := by decide +kernel
theorem dX3_fitByChance_62 : decode cX3_fitByChance 62 = .ok (.iconst 1, 1) := by decide +kernel
theorem dX3_fitByChance_63 : decode cX3_fitByChance 63 = .ok (.isub, 1) := by decide +kernel
theorem dX3_fitByChance_64 : decode cX3_fitByChance 64 = .ok (.invokestatic 146, 3) := by decide +kernel
theorem dX3_fitByChance_67 : decode cX3_fitByChance 67 = .ok (.lmul, 1) := by decide +kernel
theorem dX3_fitByChance_68 : decode cX3_fitByChance 68 = .ok (.lcmp, 1) := by decide +kernel
theorem dX3_fitByChance_69 : decode cX3_fitByChance 69 = .ok (.ifCond .lt 7, 3) := by decide +kernel
theorem dX3_fitByChance_72 : decode cX3_fitByChance 72 = .ok (.iconst 1, 1) := by decide +kernel
theorem dX3_fitByChance_73 : decode cX3_fitByChance 73 = .ok (.goto 4, 3) := by decide +kernel
theorem dX3_fitByChance_76 : decode cX3_fitByChance 76 = .ok (.iconst 0, 1) := by decide +kernel
theorem dX3_fitByChance_77 : decode cX3_fitByChance 77 = .ok (.bastore, 1) := by decide +kernel
theorem dX3_fitByChance_78 : decode cX3_fitByChance 78 = .ok (.iinc 3 1, 3) := by decide +kernel
theorem dX3_fitByChance_81 : decode cX3_fitByChance 81 = .ok (.goto (-47), 3) := by decide +kernel
theorem dX3_fitByChance_84 : decode cX3_fitByChance 84 = .ok (.return_, 1) := by decide +kernel
theorem dX3_takeParts_0 : decode cX3_takeParts 0 = .ok (.aload_n 0, 1) := by decide +kernel
theorem dX3_takeParts_1 : decode cX3_takeParts 1 = .ok (.getfield 15, 3) := by decide +kernel
theorem dX3_takeParts_4 : decode cX3_takeParts 4 = .ok (.iconst 0, 1) := by decide +kernel
theorem dX3_takeParts_5 : decode cX3_takeParts 5 = .ok (.iconst 0, 1) := by decide +kernel
theorem dX3_takeParts_6 : decode cX3_takeParts 6 = .ok (.iastore, 1) := by decide +kernel
theorem dX3_takeParts_7 : decode cX3_takeParts 7 = .ok (.iconst 0, 1) := by decide +kernel
theorem dX3_takeParts_8 : decode cX3_takeParts 8 = .ok (.istore_n 2, 1) := by decide +kernel
theorem dX3_takeParts_9 : decode cX3_takeParts 9 = .ok (.iload_n 2, 1) := by decide +kernel
theorem dX3_takeParts_10 : decode cX3_takeParts 10 = .ok (.aload_n 0, 1) := by decide +kernel
theorem dX3_takeParts_11 : decode cX3_takeParts 11 = .ok (.getfield 32, 3) := by decide +kernel
theorem dX3_takeParts_14 : decode cX3_takeParts 14 = .ok (.getfield 79, 3) := by decide +kernel
theorem dX3_takeParts_17 : decode cX3_takeParts 17 = .ok (.getfield 83, 3) := by decide +kernel
theorem dX3_takeParts_20 : decode cX3_takeParts 20 = .ok (.if_icmp .ge 78, 3) := by decide +kernel
theorem dX3_takeParts_23 : decode cX3_takeParts 23 = .ok (.aload_n 0, 1) := by decide +kernel
theorem dX3_takeParts_24 : decode cX3_takeParts 24 = .ok (.getfield 32, 3) := by decide +kernel
theorem dX3_takeParts_27 : decode cX3_takeParts 27 = .ok (.getfield 79, 3) := by decide +kernel
theorem dX3_takeParts_30 : decode cX3_takeParts 30 = .ok (.iload_n 2, 1) := by decide +kernel
theorem dX3_takeParts_31 : decode cX3_takeParts 31 = .ok (.iconst 0, 1) := by decide +kernel
theorem dX3_takeParts_32 : decode cX3_takeParts 32 = .ok (.invokevirtual 124, 3) := by decide +kernel
theorem dX3_takeParts_35 : decode cX3_takeParts 35 = .ok (.iload_n 1, 1) := by decide +kernel
theorem dX3_takeParts_36 : decode cX3_takeParts 36 = .ok (.if_icmp .ne 26, 3) := by decide +kernel
theorem dX3_takeParts_39 : decode cX3_takeParts 39 = .ok (.aload_n 0, 1) := by decide +kernel
theorem dX3_takeParts_40 : decode cX3_takeParts 40 = .ok (.getfield 32, 3) := by decide +kernel
theorem dX3_takeParts_43 : decode cX3_takeParts 43 = .ok (.iload_n 2, 1) := by decide +kernel
theorem dX3_takeParts_44 : decode cX3_takeParts 44 = .ok (.iconst 0, 1) := by decide +kernel
theorem dX3_takeParts_45 : decode cX3_takeParts 45 = .ok (.invokevirtual 152, 3) := by decide +kernel
theorem dX3_takeParts_48 : decode cX3_takeParts 48 = .ok (.aload_n 0, 1) := by decide +kernel
theorem dX3_takeParts_49 : decode cX3_takeParts 49 = .ok (.getfield 32, 3) := by decide +kernel
theorem dX3_takeParts_52 : decode cX3_takeParts 52 = .ok (.getfield 131, 3) := by decide +kernel
theorem dX3_takeParts_55 : decode cX3_takeParts 55 = .ok (.if_icmp .gt 7, 3) := by decide +kernel
theorem dX3_takeParts_58 : decode cX3_takeParts 58 = .ok (.iconst 1, 1) := by decide +kernel
theorem dX3_takeParts_59 : decode cX3_takeParts 59 = .ok (.goto 4, 3) := by decide +kernel
theorem dX3_takeParts_62 : decode cX3_takeParts 62 = .ok (.iconst 0, 1) := by decide +kernel
theorem dX3_takeParts_63 : decode cX3_takeParts 63 = .ok (.istore_n 3, 1) := by decide +kernel
theorem dX3_takeParts_64 : decode cX3_takeParts 64 = .ok (.aload_n 0, 1) := by decide +kernel
theorem dX3_takeParts_65 : decode cX3_takeParts 65 = .ok (.getfield 15, 3) := by decide +kernel
theorem dX3_takeParts_68 : decode cX3_takeParts 68 = .ok (.iload_n 2, 1) := by decide +kernel
theorem dX3_takeParts_69 : decode cX3_takeParts 69 = .ok (.iload_n 3, 1) := by decide +kernel
theorem dX3_takeParts_70 : decode cX3_takeParts 70 = .ok (.ifCond .eq 18, 3) := by decide +kernel
theorem dX3_takeParts_73 : decode cX3_takeParts 73 = .ok (.aload_n 0, 1) := by decide +kernel
theorem dX3_takeParts_74 : decode cX3_takeParts 74 = .ok (.getfield 32, 3) := by decide +kernel
theorem dX3_takeParts_77 : decode cX3_takeParts 77 = .ok (.getfield 79, 3) := by decide +kernel
theorem dX3_takeParts_80 : decode cX3_takeParts 80 = .ok (.iload_n 2, 1) := by decide +kernel
theorem dX3_takeParts_81 : decode cX3_takeParts 81 = .ok (.iconst 1, 1) := by decide +kernel
theorem dX3_takeParts_82 : decode cX3_takeParts 82 = .ok (.invokevirtual 124, 3) := by decide +kernel
theorem dX3_takeParts_85 : decode cX3_takeParts 85 = .ok (.goto 4, 3) := by decide +kernel
theorem dX3_takeParts_88 : decode cX3_takeParts 88 = .ok (.iconst 0, 1) := by decide +kernel
theorem dX3_takeParts_89 : decode cX3_takeParts 89 = .ok (.invokestatic 127, 3) := by decide +kernel
theorem dX3_takeParts_92 : decode cX3_takeParts 92 = .ok (.iinc 2 1, 3) := by decide +kernel
theorem dX3_takeParts_95 : decode cX3_takeParts 95 = .ok (.goto (-86), 3) := by decide +kernel
theorem dX3_takeParts_98 : decode cX3_takeParts 98 = .ok (.iconst 0, 1) := by decide +kernel
theorem dX3_takeParts_99 : decode cX3_takeParts 99 = .ok (.istore_n 2, 1) := by decide +kernel
theorem dX3_takeParts_100 : decode cX3_takeParts 100 = .ok (.iload_n 2, 1) := by decide +kernel
theorem dX3_takeParts_101 : decode cX3_takeParts 101 = .ok (.aload_n 0, 1) := by decide +kernel
theorem dX3_takeParts_102 : decode cX3_takeParts 102 = .ok (.getfield 32, 3) := by decide +kernel
theorem dX3_takeParts_105 : decode cX3_takeParts 105 = .ok (.invokevirtual 58, 3) := by decide +kernel
theorem dX3_takeParts_108 : decode cX3_takeParts 108 = .ok (.if_icmp .ge 37, 3) := by decide +kernel
theorem dX3_takeParts_111 : decode cX3_takeParts 111 = .ok (.aload_n 0, 1) := by decide +kernel
theorem dX3_takeParts_112 : decode cX3_takeParts 112 = .ok (.getfield 18, 3) := by decide +kernel
theorem dX3_takeParts_115 : decode cX3_takeParts 115 = .ok (.iload_n 2, 1) := by decide +kernel
theorem dX3_takeParts_116 : decode cX3_takeParts 116 = .ok (.aload_n 0, 1) := by decide +kernel
theorem dX3_takeParts_117 : decode cX3_takeParts 117 = .ok (.getfield 15, 3) := by decide +kernel
theorem dX3_takeParts_120 : decode cX3_takeParts 120 = .ok (.iload_n 2, 1) := by decide +kernel
theorem dX3_takeParts_121 : decode cX3_takeParts 121 = .ok (.iaload, 1) := by decide +kernel
theorem dX3_takeParts_122 : decode cX3_takeParts 122 = .ok (.aload_n 0, 1) := by decide +kernel
theorem dX3_takeParts_123 : decode cX3_takeParts 123 = .ok (.getfield 32, 3) := by decide +kernel
theorem dX3_takeParts_126 : decode cX3_takeParts 126 = .ok (.iload_n 1, 1) := by decide +kernel
theorem dX3_takeParts_127 : decode cX3_takeParts 127 = .ok (.invokevirtual 141, 3) := by decide +kernel
theorem dX3_takeParts_130 : decode cX3_takeParts 130 = .ok (.if_icmp .lt 7, 3) := by decide +kernel
theorem dX3_takeParts_133 : decode cX3_takeParts 133 = .ok (.lconst 1, 1) := by decide +kernel
theorem dX3_takeParts_134 : decode cX3_takeParts 134 = .ok (.goto 4, 3) := by decide +kernel
theorem dX3_takeParts_137 : decode cX3_takeParts 137 = .ok (.lconst 0, 1) := by decide +kernel
theorem dX3_takeParts_138 : decode cX3_takeParts 138 = .ok (.lastore, 1) := by decide +kernel
theorem dX3_takeParts_139 : decode cX3_takeParts 139 = .ok (.iinc 2 1, 3) := by decide +kernel
theorem dX3_takeParts_142 : decode cX3_takeParts 142 = .ok (.goto (-42), 3) := by decide +kernel
theorem dX3_takeParts_145 : decode cX3_takeParts 145 = .ok (.iconst 0, 1) := by decide +kernel
theorem dX3_takeParts_146 : decode cX3_takeParts 146 = .ok (.istore_n 2, 1) := by decide +kernel
theorem dX3_takeParts_147 : decode cX3_takeParts 147 = .ok (.iload_n 2, 1) := by decide +kernel
theorem dX3_takeParts_148 : decode cX3_takeParts 148 = .ok (.aload_n 0, 1) := by decide +kernel
theorem dX3_takeParts_149 : decode cX3_takeParts 149 = .ok (.getfield 32, 3) := by decide +kernel
theorem dX3_takeParts_152 : decode cX3_takeParts 152 = .ok (.getfield 79, 3) := by decide +kernel
theorem dX3_takeParts_155 : decode cX3_takeParts 155 = .ok (.getfield 83, 3) := by decide +kernel
theorem dX3_takeParts_158 : decode cX3_takeParts 158 = .ok (.if_icmp .ge 14, 3) := by decide +kernel
theorem dX3_takeParts_161 : decode cX3_takeParts 161 = .ok (.aload_n 0, 1) := by decide +kernel
theorem dX3_takeParts_162 : decode cX3_takeParts 162 = .ok (.iload_n 2, 1) := by decide +kernel
theorem dX3_takeParts_163 : decode cX3_takeParts 163 = .ok (.invokevirtual 155, 3) := by decide +kernel
theorem dX3_takeParts_166 : decode cX3_takeParts 166 = .ok (.iinc 2 1, 3) := by decide +kernel
theorem dX3_takeParts_169 : decode cX3_takeParts 169 = .ok (.goto (-22), 3) := by decide +kernel
theorem dX3_takeParts_172 : decode cX3_takeParts 172 = .ok (.return_, 1) := by decide +kernel
theorem dX3_mayBeLate_0 : decode cX3_mayBeLate 0 = .ok (.iconst 1, 1) := by decide +kernel
theorem dX3_mayBeLate_1 : decode cX3_mayBeLate 1 = .ok (.iload_n 1, 1) := by decide +kernel
theorem dX3_mayBeLate_2 : decode cX3_mayBeLate 2 = .ok (.ishl, 1) := by decide +kernel
theorem dX3_mayBeLate_3 : decode cX3_mayBeLate 3 = .ok (.istore_n 2, 1) := by decide +kernel
theorem dX3_mayBeLate_4 : decode cX3_mayBeLate 4 = .ok (.aload_n 0, 1) := by decide +kernel
theorem dX3_mayBeLate_5 : decode cX3_mayBeLate 5 = .ok (.getfield 32, 3) := by decide +kernel
theorem dX3_mayBeLate_8 : decode cX3_mayBeLate 8 = .ok (.iload_n 1, 1) := by decide +kernel
theorem dX3_mayBeLate_9 : decode cX3_mayBeLate 9 = .ok (.aload_n 0, 1) := by decide +kernel
theorem dX3_mayBeLate_10 : decode cX3_mayBeLate 10 = .ok (.getfield 32, 3) := by decide +kernel
theorem dX3_mayBeLate_13 : decode cX3_mayBeLate 13 = .ok (.getfield 131, 3) := by decide +kernel
theorem dX3_mayBeLate_16 : decode cX3_mayBeLate 16 = .ok (.invokevirtual 138, 3) := by decide +kernel
theorem dX3_mayBeLate_19 : decode cX3_mayBeLate 19 = .ok (.ifCond .le 18, 3) := by decide +kernel
theorem dX3_mayBeLate_22 : decode cX3_mayBeLate 22 = .ok (.aload_n 0, 1) := by decide +kernel
theorem dX3_mayBeLate_23 : decode cX3_mayBeLate 23 = .ok (.getfield 32, 3) := by decide +kernel
theorem dX3_mayBeLate_26 : decode cX3_mayBeLate 26 = .ok (.getfield 79, 3) := by decide +kernel
theorem dX3_mayBeLate_29 : decode cX3_mayBeLate 29 = .ok (.iload_n 1, 1) := by decide +kernel
theorem dX3_mayBeLate_30 : decode cX3_mayBeLate 30 = .ok (.iconst 3, 1) := by decide +kernel
theorem dX3_mayBeLate_31 : decode cX3_mayBeLate 31 = .ok (.invokevirtual 124, 3) := by decide +kernel
theorem dX3_mayBeLate_34 : decode cX3_mayBeLate 34 = .ok (.goto 4, 3) := by decide +kernel
theorem dX3_mayBeLate_37 : decode cX3_mayBeLate 37 = .ok (.iconst 0, 1) := by decide +kernel
theorem dX3_mayBeLate_38 : decode cX3_mayBeLate 38 = .ok (.istore_n 3, 1) := by decide +kernel
theorem dX3_mayBeLate_39 : decode cX3_mayBeLate 39 = .ok (.iconst 0, 1) := by decide +kernel
theorem dX3_mayBeLate_40 : decode cX3_mayBeLate 40 = .ok (.istore 4, 2) := by decide +kernel
theorem dX3_mayBeLate_42 : decode cX3_mayBeLate 42 = .ok (.iload 4, 2) := by decide +kernel
theorem dX3_mayBeLate_44 : decode cX3_mayBeLate 44 = .ok (.aload_n 0, 1) := by decide +kernel
theorem dX3_mayBeLate_45 : decode cX3_mayBeLate 45 = .ok (.getfield 32, 3) := by decide +kernel
theorem dX3_mayBeLate_48 : decode cX3_mayBeLate 48 = .ok (.invokevirtual 58, 3) := by decide +kernel
theorem dX3_mayBeLate_51 : decode cX3_mayBeLate 51 = .ok (.if_icmp .ge 49, 3) := by decide +kernel
theorem dX3_mayBeLate_54 : decode cX3_mayBeLate 54 = .ok (.iload 4, 2) := by decide +kernel
theorem dX3_mayBeLate_56 : decode cX3_mayBeLate 56 = .ok (.iload_n 2, 1) := by decide +kernel
theorem dX3_mayBeLate_57 : decode cX3_mayBeLate 57 = .ok (.iand, 1) := by decide +kernel
theorem dX3_mayBeLate_58 : decode cX3_mayBeLate 58 = .ok (.ifCond .eq 36, 3) := by decide +kernel
theorem dX3_mayBeLate_61 : decode cX3_mayBeLate 61 = .ok (.aload_n 0, 1) := by decide +kernel
theorem dX3_mayBeLate_62 : decode cX3_mayBeLate 62 = .ok (.getfield 18, 3) := by decide +kernel
theorem dX3_mayBeLate_65 : decode cX3_mayBeLate 65 = .ok (.iload 4, 2) := by decide +kernel
theorem dX3_mayBeLate_67 : decode cX3_mayBeLate 67 = .ok (.bipush 100, 2) := by decide +kernel
theorem dX3_mayBeLate_69 : decode cX3_mayBeLate 69 = .ok (.iload_n 3, 1) := by decide +kernel
theorem dX3_mayBeLate_70 : decode cX3_mayBeLate 70 = .ok (.isub, 1) := by decide +kernel
theorem dX3_mayBeLate_71 : decode cX3_mayBeLate 71 = .ok (.i2l, 1) := by decide +kernel
theorem dX3_mayBeLate_72 : decode cX3_mayBeLate 72 = .ok (.aload_n 0, 1) := by decide +kernel
theorem dX3_mayBeLate_73 : decode cX3_mayBeLate 73 = .ok (.getfield 18, 3) := by decide +kernel
theorem dX3_mayBeLate_76 : decode cX3_mayBeLate 76 = .ok (.iload 4, 2) := by decide +kernel
theorem dX3_mayBeLate_78 : decode cX3_mayBeLate 78 = .ok (.laload, 1) := by decide +kernel
theorem dX3_mayBeLate_79 : decode cX3_mayBeLate 79 = .ok (.lmul, 1) := by decide +kernel
theorem dX3_mayBeLate_80 : decode cX3_mayBeLate 80 = .ok (.iload_n 3, 1) := by decide +kernel
theorem dX3_mayBeLate_81 : decode cX3_mayBeLate 81 = .ok (.i2l, 1) := by decide +kernel
theorem dX3_mayBeLate_82 : decode cX3_mayBeLate 82 = .ok (.aload_n 0, 1) := by decide +kernel
theorem dX3_mayBeLate_83 : decode cX3_mayBeLate 83 = .ok (.getfield 18, 3) := by decide +kernel
theorem dX3_mayBeLate_86 : decode cX3_mayBeLate 86 = .ok (.iload 4, 2) := by decide +kernel
theorem dX3_mayBeLate_88 : decode cX3_mayBeLate 88 = .ok (.iload_n 2, 1) := by decide +kernel
theorem dX3_mayBeLate_89 : decode cX3_mayBeLate 89 = .ok (.ixor, 1) := by decide +kernel
theorem dX3_mayBeLate_90 : decode cX3_mayBeLate 90 = .ok (.laload, 1) := by decide +kernel
theorem dX3_mayBeLate_91 : decode cX3_mayBeLate 91 = .ok (.lmul, 1) := by decide +kernel
theorem dX3_mayBeLate_92 : decode cX3_mayBeLate 92 = .ok (.ladd, 1) := by decide +kernel
theorem dX3_mayBeLate_93 : decode cX3_mayBeLate 93 = .ok (.lastore, 1) := by decide +kernel
theorem dX3_mayBeLate_94 : decode cX3_mayBeLate 94 = .ok (.iinc 4 1, 3) := by decide +kernel
theorem dX3_mayBeLate_97 : decode cX3_mayBeLate 97 = .ok (.goto (-55), 3) := by decide +kernel
theorem dX3_mayBeLate_100 : decode cX3_mayBeLate 100 = .ok (.return_, 1) := by decide +kernel
theorem dX3_cheapest_0 : decode cX3_cheapest 0 = .ok (.iconst (-1), 1) := by decide +kernel
theorem dX3_cheapest_1 : decode cX3_cheapest 1 = .ok (.istore_n 2, 1) := by decide +kernel
theorem dX3_cheapest_2 : decode cX3_cheapest 2 = .ok (.ldc 104, 2) := by decide +kernel
theorem dX3_cheapest_4 : decode cX3_cheapest 4 = .ok (.istore_n 3, 1) := by decide +kernel
theorem dX3_cheapest_5 : decode cX3_cheapest 5 = .ok (.iconst 0, 1) := by decide +kernel
theorem dX3_cheapest_6 : decode cX3_cheapest 6 = .ok (.istore 4, 2) := by decide +kernel
theorem dX3_cheapest_8 : decode cX3_cheapest 8 = .ok (.iload 4, 2) := by decide +kernel
theorem dX3_cheapest_10 : decode cX3_cheapest 10 = .ok (.aload_n 0, 1) := by decide +kernel
theorem dX3_cheapest_11 : decode cX3_cheapest 11 = .ok (.getfield 32, 3) := by decide +kernel
theorem dX3_cheapest_14 : decode cX3_cheapest 14 = .ok (.invokevirtual 58, 3) := by decide +kernel
theorem dX3_cheapest_17 : decode cX3_cheapest 17 = .ok (.if_icmp .ge 50, 3) := by decide +kernel
theorem dX3_cheapest_20 : decode cX3_cheapest 20 = .ok (.iload 4, 2) := by decide +kernel
theorem dX3_cheapest_22 : decode cX3_cheapest 22 = .ok (.iload_n 1, 1) := by decide +kernel
theorem dX3_cheapest_23 : decode cX3_cheapest 23 = .ok (.iconst (-1), 1) := by decide +kernel
theorem dX3_cheapest_24 : decode cX3_cheapest 24 = .ok (.ixor, 1) := by decide +kernel
theorem dX3_cheapest_25 : decode cX3_cheapest 25 = .ok (.iand, 1) := by decide +kernel
theorem dX3_cheapest_26 : decode cX3_cheapest 26 = .ok (.ifCond .ne 35, 3) := by decide +kernel
theorem dX3_cheapest_29 : decode cX3_cheapest 29 = .ok (.aload_n 0, 1) := by decide +kernel
theorem dX3_cheapest_30 : decode cX3_cheapest 30 = .ok (.getfield 22, 3) := by decide +kernel
theorem dX3_cheapest_33 : decode cX3_cheapest 33 = .ok (.iload 4, 2) := by decide +kernel
theorem dX3_cheapest_35 : decode cX3_cheapest 35 = .ok (.baload, 1) := by decide +kernel
theorem dX3_cheapest_36 : decode cX3_cheapest 36 = .ok (.ifCond .eq 25, 3) := by decide +kernel
theorem dX3_cheapest_39 : decode cX3_cheapest 39 = .ok (.aload_n 0, 1) := by decide +kernel
theorem dX3_cheapest_40 : decode cX3_cheapest 40 = .ok (.getfield 9, 3) := by decide +kernel
theorem dX3_cheapest_43 : decode cX3_cheapest 43 = .ok (.iload 4, 2) := by decide +kernel
theorem dX3_cheapest_45 : decode cX3_cheapest 45 = .ok (.iaload, 1) := by decide +kernel
theorem dX3_cheapest_46 : decode cX3_cheapest 46 = .ok (.iload_n 3, 1) := by decide +kernel
theorem dX3_cheapest_47 : decode cX3_cheapest 47 = .ok (.if_icmp .ge 14, 3) := by decide +kernel
theorem dX3_cheapest_50 : decode cX3_cheapest 50 = .ok (.aload_n 0, 1) := by decide +kernel
theorem dX3_cheapest_51 : decode cX3_cheapest 51 = .ok (.getfield 9, 3) := by decide +kernel
theorem dX3_cheapest_54 : decode cX3_cheapest 54 = .ok (.iload 4, 2) := by decide +kernel
theorem dX3_cheapest_56 : decode cX3_cheapest 56 = .ok (.iaload, 1) := by decide +kernel
theorem dX3_cheapest_57 : decode cX3_cheapest 57 = .ok (.istore_n 3, 1) := by decide +kernel
theorem dX3_cheapest_58 : decode cX3_cheapest 58 = .ok (.iload 4, 2) := by decide +kernel
theorem dX3_cheapest_60 : decode cX3_cheapest 60 = .ok (.istore_n 2, 1) := by decide +kernel
theorem dX3_cheapest_61 : decode cX3_cheapest 61 = .ok (.iinc 4 1, 3) := by decide +kernel
theorem dX3_cheapest_64 : decode cX3_cheapest 64 = .ok (.goto (-56), 3) := by decide +kernel
theorem dX3_cheapest_67 : decode cX3_cheapest 67 = .ok (.iload_n 2, 1) := by decide +kernel
theorem dX3_cheapest_68 : decode cX3_cheapest 68 = .ok (.ireturn, 1) := by decide +kernel
theorem dX3_orPriceless_0 : decode cX3_orPriceless 0 = .ok (.iload_n 1, 1) := by decide +kernel
theorem dX3_orPriceless_1 : decode cX3_orPriceless 1 = .ok (.ifCond .lt 19, 3) := by decide +kernel
theorem dX3_orPriceless_4 : decode cX3_orPriceless 4 = .ok (.iload_n 1, 1) := by decide +kernel
theorem dX3_orPriceless_5 : decode cX3_orPriceless 5 = .ok (.sipush 512, 3) := by decide +kernel
theorem dX3_orPriceless_8 : decode cX3_orPriceless 8 = .ok (.if_icmp .ge 12, 3) := by decide +kernel
theorem dX3_orPriceless_11 : decode cX3_orPriceless 11 = .ok (.aload_n 0, 1) := by decide +kernel
theorem dX3_orPriceless_12 : decode cX3_orPriceless 12 = .ok (.getfield 9, 3) := by decide +kernel
theorem dX3_orPriceless_15 : decode cX3_orPriceless 15 = .ok (.iload_n 1, 1) := by decide +kernel
theorem dX3_orPriceless_16 : decode cX3_orPriceless 16 = .ok (.iaload, 1) := by decide +kernel
theorem dX3_orPriceless_17 : decode cX3_orPriceless 17 = .ok (.goto 5, 3) := by decide +kernel
theorem dX3_orPriceless_20 : decode cX3_orPriceless 20 = .ok (.ldc 104, 2) := by decide +kernel
theorem dX3_orPriceless_22 : decode cX3_orPriceless 22 = .ok (.ireturn, 1) := by decide +kernel
theorem dX4_init_0 : decode cX4_init 0 = .ok (.aload_n 0, 1) := by decide +kernel
theorem dX4_init_1 : decode cX4_init 1 = .ok (.invokespecial 3, 3) := by decide +kernel
theorem dX4_init_4 : decode cX4_init 4 = .ok (.aload_n 0, 1) := by decide +kernel
theorem dX4_init_5 : decode cX4_init 5 = .ok (.aload_n 1, 1) := by decide +kernel
theorem dX4_init_6 : decode cX4_init 6 = .ok (.putfield 9, 3) := by decide +kernel
theorem dX4_init_9 : decode cX4_init 9 = .ok (.return_, 1) := by decide +kernel
theorem dX4_countReadings_0 : decode cX4_countReadings 0 = .ok (.iconst 0, 1) := by decide +kernel
theorem dX4_countReadings_1 : decode cX4_countReadings 1 = .ok (.istore_n 2, 1) := by decide +kernel
theorem dX4_countReadings_2 : decode cX4_countReadings 2 = .ok (.iconst 0, 1) := by decide +kernel
theorem dX4_countReadings_3 : decode cX4_countReadings 3 = .ok (.istore_n 3, 1) := by decide +kernel
theorem dX4_countReadings_4 : decode cX4_countReadings 4 = .ok (.iload_n 3, 1) := by decide +kernel
theorem dX4_countReadings_5 : decode cX4_countReadings 5 = .ok (.aload_n 0, 1) := by decide +kernel
theorem dX4_countReadings_6 : decode cX4_countReadings 6 = .ok (.invokevirtual 15, 3) := by decide +kernel
theorem dX4_countReadings_9 : decode cX4_countReadings 9 = .ok (.if_icmp .ge 21, 3) := by decide +kernel
theorem dX4_countReadings_12 : decode cX4_countReadings 12 = .ok (.aload_n 0, 1) := by decide +kernel
theorem dX4_countReadings_13 : decode cX4_countReadings 13 = .ok (.iload_n 1, 1) := by decide +kernel
theorem dX4_countReadings_14 : decode cX4_countReadings 14 = .ok (.iload_n 3, 1) := by decide +kernel
theorem dX4_countReadings_15 : decode cX4_countReadings 15 = .ok (.invokevirtual 19, 3) := by decide +kernel
theorem dX4_countReadings_18 : decode cX4_countReadings 18 = .ok (.ifCond .eq 6, 3) := by decide +kernel
theorem dX4_countReadings_21 : decode cX4_countReadings 21 = .ok (.iinc 2 1, 3) := by decide +kernel
theorem dX4_countReadings_24 : decode cX4_countReadings 24 = .ok (.iinc 3 1, 3) := by decide +kernel
theorem dX4_countReadings_27 : decode cX4_countReadings 27 = .ok (.goto (-23), 3) := by decide +kernel
theorem dX4_countReadings_30 : decode cX4_countReadings 30 = .ok (.iload_n 2, 1) := by decide +kernel
theorem dX4_countReadings_31 : decode cX4_countReadings 31 = .ok (.ireturn, 1) := by decide +kernel
theorem dX4_loopholeMinutes_0 : decode cX4_loopholeMinutes 0 = .ok (.lconst 0, 1) := by decide +kernel
theorem dX4_loopholeMinutes_1 : decode cX4_loopholeMinutes 1 = .ok (.lstore_n 1, 1) := by decide +kernel
theorem dX4_loopholeMinutes_2 : decode cX4_loopholeMinutes 2 = .ok (.iconst 0, 1) := by decide +kernel
theorem dX4_loopholeMinutes_3 : decode cX4_loopholeMinutes 3 = .ok (.istore_n 3, 1) := by decide +kernel
theorem dX4_loopholeMinutes_4 : decode cX4_loopholeMinutes 4 = .ok (.iload_n 3, 1) := by decide +kernel
theorem dX4_loopholeMinutes_5 : decode cX4_loopholeMinutes 5 = .ok (.bipush 59, 2) := by decide +kernel
theorem dX4_loopholeMinutes_7 : decode cX4_loopholeMinutes 7 = .ok (.if_icmp .gt 38, 3) := by decide +kernel
theorem dX4_loopholeMinutes_10 : decode cX4_loopholeMinutes 10 = .ok (.aload_n 0, 1) := by decide +kernel
theorem dX4_loopholeMinutes_11 : decode cX4_loopholeMinutes 11 = .ok (.iload_n 3, 1) := by decide +kernel
theorem dX4_loopholeMinutes_12 : decode cX4_loopholeMinutes 12 = .ok (.iconst 0, 1) := by decide +kernel
theorem dX4_loopholeMinutes_13 : decode cX4_loopholeMinutes 13 = .ok (.invokevirtual 19, 3) := by decide +kernel
theorem dX4_loopholeMinutes_16 : decode cX4_loopholeMinutes 16 = .ok (.ifCond .eq 23, 3) := by decide +kernel
theorem dX4_loopholeMinutes_19 : decode cX4_loopholeMinutes 19 = .ok (.aload_n 0, 1) := by decide +kernel
theorem dX4_loopholeMinutes_20 : decode cX4_loopholeMinutes 20 = .ok (.iload_n 3, 1) := by decide +kernel
theorem dX4_loopholeMinutes_21 : decode cX4_loopholeMinutes 21 = .ok (.aload_n 0, 1) := by decide +kernel
theorem dX4_loopholeMinutes_22 : decode cX4_loopholeMinutes 22 = .ok (.invokevirtual 15, 3) := by decide +kernel
theorem dX4_loopholeMinutes_25 : decode cX4_loopholeMinutes 25 = .ok (.iconst 1, 1) := by decide +kernel
theorem dX4_loopholeMinutes_26 : decode cX4_loopholeMinutes 26 = .ok (.isub, 1) := by decide +kernel
theorem dX4_loopholeMinutes_27 : decode cX4_loopholeMinutes 27 = .ok (.invokevirtual 19, 3) := by decide +kernel
theorem dX4_loopholeMinutes_30 : decode cX4_loopholeMinutes 30 = .ok (.ifCond .ne 9, 3) := by decide +kernel
theorem dX4_loopholeMinutes_33 : decode cX4_loopholeMinutes 33 = .ok (.lload_n 1, 1) := by decide +kernel
theorem dX4_loopholeMinutes_34 : decode cX4_loopholeMinutes 34 = .ok (.lconst 1, 1) := by decide +kernel
theorem dX4_loopholeMinutes_35 : decode cX4_loopholeMinutes 35 = .ok (.iload_n 3, 1) := by decide +kernel
theorem dX4_loopholeMinutes_36 : decode cX4_loopholeMinutes 36 = .ok (.lshl, 1) := by decide +kernel
theorem dX4_loopholeMinutes_37 : decode cX4_loopholeMinutes 37 = .ok (.lor, 1) := by decide +kernel
theorem dX4_loopholeMinutes_38 : decode cX4_loopholeMinutes 38 = .ok (.lstore_n 1, 1) := by decide +kernel
theorem dX4_loopholeMinutes_39 : decode cX4_loopholeMinutes 39 = .ok (.iinc 3 1, 3) := by decide +kernel
theorem dX4_loopholeMinutes_42 : decode cX4_loopholeMinutes 42 = .ok (.goto (-38), 3) := by decide +kernel
theorem dX4_loopholeMinutes_45 : decode cX4_loopholeMinutes 45 = .ok (.lload_n 1, 1) := by decide +kernel
theorem dX4_loopholeMinutes_46 : decode cX4_loopholeMinutes 46 = .ok (.lreturn, 1) := by decide +kernel
theorem dX4_firstSafeMinute_0 : decode cX4_firstSafeMinute 0 = .ok (.iconst 0, 1) := by decide +kernel
theorem dX4_firstSafeMinute_1 : decode cX4_firstSafeMinute 1 = .ok (.istore_n 1, 1) := by decide +kernel
theorem dX4_firstSafeMinute_2 : decode cX4_firstSafeMinute 2 = .ok (.iload_n 1, 1) := by decide +kernel
theorem dX4_firstSafeMinute_3 : decode cX4_firstSafeMinute 3 = .ok (.bipush 59, 2) := by decide +kernel
theorem dX4_firstSafeMinute_5 : decode cX4_firstSafeMinute 5 = .ok (.if_icmp .gt 25, 3) := by decide +kernel
theorem dX4_firstSafeMinute_8 : decode cX4_firstSafeMinute 8 = .ok (.aload_n 0, 1) := by decide +kernel
theorem dX4_firstSafeMinute_9 : decode cX4_firstSafeMinute 9 = .ok (.iload_n 1, 1) := by decide +kernel
theorem dX4_firstSafeMinute_10 : decode cX4_firstSafeMinute 10 = .ok (.aload_n 0, 1) := by decide +kernel
theorem dX4_firstSafeMinute_11 : decode cX4_firstSafeMinute 11 = .ok (.invokevirtual 15, 3) := by decide +kernel
theorem dX4_firstSafeMinute_14 : decode cX4_firstSafeMinute 14 = .ok (.iconst 1, 1) := by decide +kernel
theorem dX4_firstSafeMinute_15 : decode cX4_firstSafeMinute 15 = .ok (.isub, 1) := by decide +kernel
theorem dX4_firstSafeMinute_16 : decode cX4_firstSafeMinute 16 = .ok (.invokevirtual 19, 3) := by decide +kernel
theorem dX4_firstSafeMinute_19 : decode cX4_firstSafeMinute 19 = .ok (.ifCond .eq 5, 3) := by decide +kernel
theorem dX4_firstSafeMinute_22 : decode cX4_firstSafeMinute 22 = .ok (.iload_n 1, 1) := by decide +kernel
theorem dX4_firstSafeMinute_23 : decode cX4_firstSafeMinute 23 = .ok (.ireturn, 1) := by decide +kernel
theorem dX4_firstSafeMinute_24 : decode cX4_firstSafeMinute 24 = .ok (.iinc 1 1, 3) := by decide +kernel
theorem dX4_firstSafeMinute_27 : decode cX4_firstSafeMinute 27 = .ok (.goto (-25), 3) := by decide +kernel
theorem dX4_firstSafeMinute_30 : decode cX4_firstSafeMinute 30 = .ok (.iconst (-1), 1) := by decide +kernel
theorem dX4_firstSafeMinute_31 : decode cX4_firstSafeMinute 31 = .ok (.ireturn, 1) := by decide +kernel
theorem dX4_closingBounds_0 : decode cX4_closingBounds 0 = .ok (.iconst (-1), 1) := by decide +kernel
theorem dX4_closingBounds_1 : decode cX4_closingBounds 1 = .ok (.istore_n 2, 1) := by decide +kernel
theorem dX4_closingBounds_2 : decode cX4_closingBounds 2 = .ok (.iconst 2, 1) := by decide +kernel
theorem dX4_closingBounds_3 : decode cX4_closingBounds 3 = .ok (.aload_n 0, 1) := by decide +kernel
theorem dX4_closingBounds_4 : decode cX4_closingBounds 4 = .ok (.getfield 9, 3) := by decide +kernel
theorem dX4_closingBounds_7 : decode cX4_closingBounds 7 = .ok (.getfield 23, 3) := by decide +kernel
theorem dX4_closingBounds_10 : decode cX4_closingBounds 10 = .ok (.getfield 29, 3) := by decide +kernel
theorem dX4_closingBounds_13 : decode cX4_closingBounds 13 = .ok (.imul, 1) := by decide +kernel
theorem dX4_closingBounds_14 : decode cX4_closingBounds 14 = .ok (.iconst 1, 1) := by decide +kernel
theorem dX4_closingBounds_15 : decode cX4_closingBounds 15 = .ok (.iadd, 1) := by decide +kernel
theorem dX4_closingBounds_16 : decode cX4_closingBounds 16 = .ok (.istore_n 3, 1) := by decide +kernel
theorem dX4_closingBounds_17 : decode cX4_closingBounds 17 = .ok (.iconst 0, 1) := by decide +kernel
theorem dX4_closingBounds_18 : decode cX4_closingBounds 18 = .ok (.istore 4, 2) := by decide +kernel
theorem dX4_closingBounds_20 : decode cX4_closingBounds 20 = .ok (.iload 4, 2) := by decide +kernel
theorem dX4_closingBounds_22 : decode cX4_closingBounds 22 = .ok (.aload_n 0, 1) := by decide +kernel
theorem dX4_closingBounds_23 : decode cX4_closingBounds 23 = .ok (.invokevirtual 15, 3) := by decide +kernel
theorem dX4_closingBounds_26 : decode cX4_closingBounds 26 = .ok (.if_icmp .ge 37, 3) := by decide +kernel
theorem dX4_closingBounds_29 : decode cX4_closingBounds 29 = .ok (.iload 4, 2) := by decide +kernel
theorem dX4_closingBounds_31 : decode cX4_closingBounds 31 = .ok (.invokestatic 35, 3) := by decide +kernel
theorem dX4_closingBounds_34 : decode cX4_closingBounds 34 = .ok (.iload_n 3, 1) := by decide +kernel
theorem dX4_closingBounds_35 : decode cX4_closingBounds 35 = .ok (.if_icmp .ge 22, 3) := by decide +kernel
theorem dX4_closingBounds_38 : decode cX4_closingBounds 38 = .ok (.aload_n 0, 1) := by decide +kernel
theorem dX4_closingBounds_39 : decode cX4_closingBounds 39 = .ok (.iload_n 1, 1) := by decide +kernel
theorem dX4_closingBounds_40 : decode cX4_closingBounds 40 = .ok (.iload 4, 2) := by decide +kernel
theorem dX4_closingBounds_42 : decode cX4_closingBounds 42 = .ok (.invokevirtual 19, 3) := by decide +kernel
theorem dX4_closingBounds_45 : decode cX4_closingBounds 45 = .ok (.ifCond .ne 12, 3) := by decide +kernel
theorem dX4_closingBounds_48 : decode cX4_closingBounds 48 = .ok (.iload 4, 2) := by decide +kernel
theorem dX4_closingBounds_50 : decode cX4_closingBounds 50 = .ok (.istore_n 2, 1) := by decide +kernel
theorem dX4_closingBounds_51 : decode cX4_closingBounds 51 = .ok (.iload 4, 2) := by decide +kernel
theorem dX4_closingBounds_53 : decode cX4_closingBounds 53 = .ok (.invokestatic 35, 3) := by decide +kernel
theorem dX4_closingBounds_56 : decode cX4_closingBounds 56 = .ok (.istore_n 3, 1) := by decide +kernel
theorem dX4_closingBounds_57 : decode cX4_closingBounds 57 = .ok (.iinc 4 1, 3) := by decide +kernel
theorem dX4_closingBounds_60 : decode cX4_closingBounds 60 = .ok (.goto (-40), 3) := by decide +kernel
theorem dX4_closingBounds_63 : decode cX4_closingBounds 63 = .ok (.iload_n 2, 1) := by decide +kernel
theorem dX4_closingBounds_64 : decode cX4_closingBounds 64 = .ok (.ireturn, 1) := by decide +kernel
theorem dX4_allReadings_0 : decode cX4_allReadings 0 = .ok (.iconst 1, 1) := by decide +kernel
theorem dX4_allReadings_1 : decode cX4_allReadings 1 = .ok (.iconst 2, 1) := by decide +kernel
theorem dX4_allReadings_2 : decode cX4_allReadings 2 = .ok (.aload_n 0, 1) := by decide +kernel
theorem dX4_allReadings_3 : decode cX4_allReadings 3 = .ok (.getfield 9, 3) := by decide +kernel
theorem dX4_allReadings_6 : decode cX4_allReadings 6 = .ok (.getfield 23, 3) := by decide +kernel
theorem dX4_allReadings_9 : decode cX4_allReadings 9 = .ok (.getfield 29, 3) := by decide +kernel
theorem dX4_allReadings_12 : decode cX4_allReadings 12 = .ok (.imul, 1) := by decide +kernel
theorem dX4_allReadings_13 : decode cX4_allReadings 13 = .ok (.ishl, 1) := by decide +kernel
theorem dX4_allReadings_14 : decode cX4_allReadings 14 = .ok (.ireturn, 1) := by decide +kernel
theorem dX4_isHeld_0 : decode cX4_isHeld 0 = .ok (.iconst 0, 1) := by decide +kernel
theorem dX4_isHeld_1 : decode cX4_isHeld 1 = .ok (.istore_n 3, 1) := by decide +kernel
theorem dX4_isHeld_2 : decode cX4_isHeld 2 = .ok (.iload_n 3, 1) := by decide +kernel
theorem dX4_isHeld_3 : decode cX4_isHeld 3 = .ok (.aload_n 0, 1) := by decide +kernel
theorem dX4_isHeld_4 : decode cX4_isHeld 4 = .ok (.getfield 9, 3) := by decide +kernel
theorem dX4_isHeld_7 : decode cX4_isHeld 7 = .ok (.getfield 23, 3) := by decide +kernel
theorem dX4_isHeld_10 : decode cX4_isHeld 10 = .ok (.getfield 29, 3) := by decide +kernel
theorem dX4_isHeld_13 : decode cX4_isHeld 13 = .ok (.if_icmp .ge 109, 3) := by decide +kernel
theorem dX4_isHeld_16 : decode cX4_isHeld 16 = .ok (.aload_n 0, 1) := by decide +kernel
theorem dX4_isHeld_17 : decode cX4_isHeld 17 = .ok (.getfield 9, 3) := by decide +kernel
theorem dX4_isHeld_20 : decode cX4_isHeld 20 = .ok (.getfield 23, 3) := by decide +kernel
theorem dX4_isHeld_23 : decode cX4_isHeld 23 = .ok (.iload_n 3, 1) := by decide +kernel
theorem dX4_isHeld_24 : decode cX4_isHeld 24 = .ok (.iconst 0, 1) := by decide +kernel
theorem dX4_isHeld_25 : decode cX4_isHeld 25 = .ok (.invokevirtual 41, 3) := by decide +kernel
theorem dX4_isHeld_28 : decode cX4_isHeld 28 = .ok (.istore 4, 2) := by decide +kernel
theorem dX4_isHeld_30 : decode cX4_isHeld 30 = .ok (.aload_n 0, 1) := by decide +kernel
theorem dX4_isHeld_31 : decode cX4_isHeld 31 = .ok (.getfield 9, 3) := by decide +kernel
theorem dX4_isHeld_34 : decode cX4_isHeld 34 = .ok (.getfield 23, 3) := by decide +kernel
theorem dX4_isHeld_37 : decode cX4_isHeld 37 = .ok (.iload_n 3, 1) := by decide +kernel
theorem dX4_isHeld_38 : decode cX4_isHeld 38 = .ok (.iconst 1, 1) := by decide +kernel
theorem dX4_isHeld_39 : decode cX4_isHeld 39 = .ok (.invokevirtual 41, 3) := by decide +kernel
theorem dX4_isHeld_42 : decode cX4_isHeld 42 = .ok (.istore 5, 2) := by decide +kernel
theorem dX4_isHeld_44 : decode cX4_isHeld 44 = .ok (.iload_n 1, 1) := by decide +kernel
theorem dX4_isHeld_45 : decode cX4_isHeld 45 = .ok (.iload 4, 2) := by decide +kernel
theorem dX4_isHeld_47 : decode cX4_isHeld 47 = .ok (.if_icmp .gt 19, 3) := by decide +kernel
theorem dX4_isHeld_50 : decode cX4_isHeld 50 = .ok (.iload_n 1, 1) := by decide +kernel
theorem dX4_isHeld_51 : decode cX4_isHeld 51 = .ok (.iload 4, 2) := by decide +kernel
theorem dX4_isHeld_53 : decode cX4_isHeld 53 = .ok (.if_icmp .ne 17, 3) := by decide +kernel
theorem dX4_isHeld_56 : decode cX4_isHeld 56 = .ok (.iload_n 2, 1) := by decide +kernel
theorem dX4_isHeld_57 : decode cX4_isHeld 57 = .ok (.iconst 2, 1) := by decide +kernel
theorem dX4_isHeld_58 : decode cX4_isHeld 58 = .ok (.iload_n 3, 1) := by decide +kernel
theorem dX4_isHeld_59 : decode cX4_isHeld 59 = .ok (.imul, 1) := by decide +kernel
theorem dX4_isHeld_60 : decode cX4_isHeld 60 = .ok (.invokestatic 45, 3) := by decide +kernel
theorem dX4_isHeld_63 : decode cX4_isHeld 63 = .ok (.ifCond .eq 7, 3) := by decide +kernel
theorem dX4_isHeld_66 : decode cX4_isHeld 66 = .ok (.iconst 1, 1) := by decide +kernel
theorem dX4_isHeld_67 : decode cX4_isHeld 67 = .ok (.goto 4, 3) := by decide +kernel
theorem dX4_isHeld_70 : decode cX4_isHeld 70 = .ok (.iconst 0, 1) := by decide +kernel
theorem dX4_isHeld_71 : decode cX4_isHeld 71 = .ok (.istore 6, 2) := by decide +kernel
theorem dX4_isHeld_73 : decode cX4_isHeld 73 = .ok (.iload_n 1, 1) := by decide +kernel
theorem dX4_isHeld_74 : decode cX4_isHeld 74 = .ok (.iload 5, 2) := by decide +kernel
theorem dX4_isHeld_76 : decode cX4_isHeld 76 = .ok (.if_icmp .lt 21, 3) := by decide +kernel
theorem dX4_isHeld_79 : decode cX4_isHeld 79 = .ok (.iload_n 1, 1) := by decide +kernel
theorem dX4_isHeld_80 : decode cX4_isHeld 80 = .ok (.iload 5, 2) := by decide +kernel
theorem dX4_isHeld_82 : decode cX4_isHeld 82 = .ok (.if_icmp .ne 19, 3) := by decide +kernel
theorem dX4_isHeld_85 : decode cX4_isHeld 85 = .ok (.iload_n 2, 1) := by decide +kernel
theorem dX4_isHeld_86 : decode cX4_isHeld 86 = .ok (.iconst 2, 1) := by decide +kernel
theorem dX4_isHeld_87 : decode cX4_isHeld 87 = .ok (.iload_n 3, 1) := by decide +kernel
theorem dX4_isHeld_88 : decode cX4_isHeld 88 = .ok (.imul, 1) := by decide +kernel
theorem dX4_isHeld_89 : decode cX4_isHeld 89 = .ok (.iconst 1, 1) := by decide +kernel
theorem dX4_isHeld_90 : decode cX4_isHeld 90 = .ok (.iadd, 1) := by decide +kernel
theorem dX4_isHeld_91 : decode cX4_isHeld 91 = .ok (.invokestatic 45, 3) := by decide +kernel
theorem dX4_isHeld_94 : decode cX4_isHeld 94 = .ok (.ifCond .eq 7, 3) := by decide +kernel
theorem dX4_isHeld_97 : decode cX4_isHeld 97 = .ok (.iconst 1, 1) := by decide +kernel
theorem dX4_isHeld_98 : decode cX4_isHeld 98 = .ok (.goto 4, 3) := by decide +kernel
theorem dX4_isHeld_101 : decode cX4_isHeld 101 = .ok (.iconst 0, 1) := by decide +kernel
theorem dX4_isHeld_102 : decode cX4_isHeld 102 = .ok (.istore 7, 2) := by decide +kernel
theorem dX4_isHeld_104 : decode cX4_isHeld 104 = .ok (.iload 6, 2) := by decide +kernel
theorem dX4_isHeld_106 : decode cX4_isHeld 106 = .ok (.ifCond .eq 10, 3) := by decide +kernel
theorem dX4_isHeld_109 : decode cX4_isHeld 109 = .ok (.iload 7, 2) := by decide +kernel
theorem dX4_isHeld_111 : decode cX4_isHeld 111 = .ok (.ifCond .eq 5, 3) := by decide +kernel
theorem dX4_isHeld_114 : decode cX4_isHeld 114 = .ok (.iconst 0, 1) := by decide +kernel
theorem dX4_isHeld_115 : decode cX4_isHeld 115 = .ok (.ireturn, 1) := by decide +kernel
theorem dX4_isHeld_116 : decode cX4_isHeld 116 = .ok (.iinc 3 1, 3) := by decide +kernel
theorem dX4_isHeld_119 : decode cX4_isHeld 119 = .ok (.goto (-117), 3) := by decide +kernel
theorem dX4_isHeld_122 : decode cX4_isHeld 122 = .ok (.iconst 1, 1) := by decide +kernel
theorem dX4_isHeld_123 : decode cX4_isHeld 123 = .ok (.ireturn, 1) := by decide +kernel
theorem dX5_init_0 : decode cX5_init 0 = .ok (.aload_n 0, 1) := by decide +kernel
theorem dX5_init_1 : decode cX5_init 1 = .ok (.invokespecial 1, 3) := by decide +kernel
theorem dX5_init_4 : decode cX5_init 4 = .ok (.aload_n 0, 1) := by decide +kernel
theorem dX5_init_5 : decode cX5_init 5 = .ok (.iconst 3, 1) := by decide +kernel
theorem dX5_init_6 : decode cX5_init 6 = .ok (.newarray .int, 2) := by decide +kernel
theorem dX5_init_8 : decode cX5_init 8 = .ok (.putfield 9, 3) := by decide +kernel
theorem dX5_init_11 : decode cX5_init 11 = .ok (.aload_n 0, 1) := by decide +kernel
theorem dX5_init_12 : decode cX5_init 12 = .ok (.iconst 3, 1) := by decide +kernel
theorem dX5_init_13 : decode cX5_init 13 = .ok (.newarray .int, 2) := by decide +kernel
theorem dX5_init_15 : decode cX5_init 15 = .ok (.putfield 13, 3) := by decide +kernel
theorem dX5_init_18 : decode cX5_init 18 = .ok (.aload_n 0, 1) := by decide +kernel
theorem dX5_init_19 : decode cX5_init 19 = .ok (.iconst 3, 1) := by decide +kernel
theorem dX5_init_20 : decode cX5_init 20 = .ok (.newarray .int, 2) := by decide +kernel
theorem dX5_init_22 : decode cX5_init 22 = .ok (.putfield 16, 3) := by decide +kernel
theorem dX5_init_25 : decode cX5_init 25 = .ok (.aload_n 0, 1) := by decide +kernel
theorem dX5_init_26 : decode cX5_init 26 = .ok (.iconst 3, 1) := by decide +kernel
theorem dX5_init_27 : decode cX5_init 27 = .ok (.newarray .int, 2) := by decide +kernel
theorem dX5_init_29 : decode cX5_init 29 = .ok (.putfield 19, 3) := by decide +kernel
theorem dX5_init_32 : decode cX5_init 32 = .ok (.return_, 1) := by decide +kernel
theorem dX5_settle_0 : decode cX5_settle 0 = .ok (.aload_n 0, 1) := by decide +kernel
theorem dX5_settle_1 : decode cX5_settle 1 = .ok (.bipush (-4), 2) := by decide +kernel
theorem dX5_settle_3 : decode cX5_settle 3 = .ok (.putfield 22, 3) := by decide +kernel
theorem dX5_settle_6 : decode cX5_settle 6 = .ok (.iconst 0, 1) := by decide +kernel
theorem dX5_settle_7 : decode cX5_settle 7 = .ok (.istore_n 3, 1) := by decide +kernel
theorem dX5_settle_8 : decode cX5_settle 8 = .ok (.iload_n 3, 1) := by decide +kernel
theorem dX5_settle_9 : decode cX5_settle 9 = .ok (.iload_n 1, 1) := by decide +kernel
theorem dX5_settle_10 : decode cX5_settle 10 = .ok (.if_icmp .gt 90, 3) := by decide +kernel
theorem dX5_settle_13 : decode cX5_settle 13 = .ok (.iconst 0, 1) := by decide +kernel
theorem dX5_settle_14 : decode cX5_settle 14 = .ok (.istore 4, 2) := by decide +kernel
theorem dX5_settle_16 : decode cX5_settle 16 = .ok (.iload_n 3, 1) := by decide +kernel
theorem dX5_settle_17 : decode cX5_settle 17 = .ok (.iload 4, 2) := by decide +kernel
theorem dX5_settle_19 : decode cX5_settle 19 = .ok (.iadd, 1) := by decide +kernel
theorem dX5_settle_20 : decode cX5_settle 20 = .ok (.iload_n 1, 1) := by decide +kernel
theorem dX5_settle_21 : decode cX5_settle 21 = .ok (.if_icmp .gt 73, 3) := by decide +kernel
theorem dX5_settle_24 : decode cX5_settle 24 = .ok (.aload_n 0, 1) := by decide +kernel
theorem dX5_settle_25 : decode cX5_settle 25 = .ok (.getfield 16, 3) := by decide +kernel
theorem dX5_settle_28 : decode cX5_settle 28 = .ok (.iload_n 3, 1) := by decide +kernel
theorem dX5_settle_29 : decode cX5_settle 29 = .ok (.iload 4, 2) := by decide +kernel
theorem dX5_settle_31 : decode cX5_settle 31 = .ok (.iload_n 1, 1) := by decide +kernel
theorem dX5_settle_32 : decode cX5_settle 32 = .ok (.invokestatic 26, 3) := by decide +kernel
theorem dX5_settle_35 : decode cX5_settle 35 = .ok (.aload_n 0, 1) := by decide +kernel
theorem dX5_settle_36 : decode cX5_settle 36 = .ok (.iload_n 2, 1) := by decide +kernel
theorem dX5_settle_37 : decode cX5_settle 37 = .ok (.invokevirtual 30, 3) := by decide +kernel
theorem dX5_settle_40 : decode cX5_settle 40 = .ok (.istore 5, 2) := by decide +kernel
theorem dX5_settle_42 : decode cX5_settle 42 = .ok (.iload 5, 2) := by decide +kernel
theorem dX5_settle_44 : decode cX5_settle 44 = .ok (.aload_n 0, 1) := by decide +kernel
theorem dX5_settle_45 : decode cX5_settle 45 = .ok (.getfield 22, 3) := by decide +kernel
theorem dX5_settle_48 : decode cX5_settle 48 = .ok (.if_icmp .le 40, 3) := by decide +kernel
theorem dX5_settle_51 : decode cX5_settle 51 = .ok (.aload_n 0, 1) := by decide +kernel
theorem dX5_settle_52 : decode cX5_settle 52 = .ok (.iload 5, 2) := by decide +kernel
theorem dX5_settle_54 : decode cX5_settle 54 = .ok (.putfield 22, 3) := by decide +kernel
theorem dX5_settle_57 : decode cX5_settle 57 = .ok (.aload_n 0, 1) := by decide +kernel
theorem dX5_settle_58 : decode cX5_settle 58 = .ok (.getfield 9, 3) := by decide +kernel
theorem dX5_settle_61 : decode cX5_settle 61 = .ok (.iload_n 3, 1) := by decide +kernel
theorem dX5_settle_62 : decode cX5_settle 62 = .ok (.iload 4, 2) := by decide +kernel
theorem dX5_settle_64 : decode cX5_settle 64 = .ok (.iload_n 1, 1) := by decide +kernel
theorem dX5_settle_65 : decode cX5_settle 65 = .ok (.invokestatic 26, 3) := by decide +kernel
theorem dX5_settle_68 : decode cX5_settle 68 = .ok (.aload_n 0, 1) := by decide +kernel
theorem dX5_settle_69 : decode cX5_settle 69 = .ok (.getfield 13, 3) := by decide +kernel
theorem dX5_settle_72 : decode cX5_settle 72 = .ok (.aload_n 0, 1) := by decide +kernel
theorem dX5_settle_73 : decode cX5_settle 73 = .ok (.getfield 19, 3) := by decide +kernel
theorem dX5_settle_76 : decode cX5_settle 76 = .ok (.iconst 0, 1) := by decide +kernel
theorem dX5_settle_77 : decode cX5_settle 77 = .ok (.iaload, 1) := by decide +kernel
theorem dX5_settle_78 : decode cX5_settle 78 = .ok (.aload_n 0, 1) := by decide +kernel
theorem dX5_settle_79 : decode cX5_settle 79 = .ok (.getfield 19, 3) := by decide +kernel
theorem dX5_settle_82 : decode cX5_settle 82 = .ok (.iconst 1, 1) := by decide +kernel
theorem dX5_settle_83 : decode cX5_settle 83 = .ok (.iaload, 1) := by decide +kernel
theorem dX5_settle_84 : decode cX5_settle 84 = .ok (.iload_n 2, 1) := by decide +kernel
theorem dX5_settle_85 : decode cX5_settle 85 = .ok (.invokestatic 26, 3) := by decide +kernel
theorem dX5_settle_88 : decode cX5_settle 88 = .ok (.iinc 4 1, 3) := by decide +kernel
theorem dX5_settle_91 : decode cX5_settle 91 = .ok (.goto (-75), 3) := by decide +kernel
theorem dX5_settle_94 : decode cX5_settle 94 = .ok (.iinc 3 1, 3) := by decide +kernel
theorem dX5_settle_97 : decode cX5_settle 97 = .ok (.goto (-89), 3) := by decide +kernel
theorem dX5_settle_100 : decode cX5_settle 100 = .ok (.return_, 1) := by decide +kernel
theorem dX5_meet_0 : decode cX5_meet 0 = .ok (.iconst 4, 1) := by decide +kernel
theorem dX5_meet_1 : decode cX5_meet 1 = .ok (.istore_n 2, 1) := by decide +kernel
theorem dX5_meet_2 : decode cX5_meet 2 = .ok (.iconst 0, 1) := by decide +kernel
theorem dX5_meet_3 : decode cX5_meet 3 = .ok (.istore_n 3, 1) := by decide +kernel
theorem dX5_meet_4 : decode cX5_meet 4 = .ok (.iconst 0, 1) := by decide +kernel
theorem dX5_meet_5 : decode cX5_meet 5 = .ok (.istore 4, 2) := by decide +kernel
theorem dX5_meet_7 : decode cX5_meet 7 = .ok (.iconst 0, 1) := by decide +kernel
theorem dX5_meet_8 : decode cX5_meet 8 = .ok (.istore 5, 2) := by decide +kernel
theorem dX5_meet_10 : decode cX5_meet 10 = .ok (.iload 5, 2) := by decide +kernel
theorem dX5_meet_12 : decode cX5_meet 12 = .ok (.iload_n 1, 1) := by decide +kernel
theorem dX5_meet_13 : decode cX5_meet 13 = .ok (.if_icmp .gt 88, 3) := by decide +kernel
theorem dX5_meet_16 : decode cX5_meet 16 = .ok (.iconst 0, 1) := by decide +kernel
theorem dX5_meet_17 : decode cX5_meet 17 = .ok (.istore 6, 2) := by decide +kernel
theorem dX5_meet_19 : decode cX5_meet 19 = .ok (.iload 5, 2) := by decide +kernel
theorem dX5_meet_21 : decode cX5_meet 21 = .ok (.iload 6, 2) := by decide +kernel
theorem dX5_meet_23 : decode cX5_meet 23 = .ok (.iadd, 1) := by decide +kernel
theorem dX5_meet_24 : decode cX5_meet 24 = .ok (.iload_n 1, 1) := by decide +kernel
theorem dX5_meet_25 : decode cX5_meet 25 = .ok (.if_icmp .gt 70, 3) := by decide +kernel
theorem dX5_meet_28 : decode cX5_meet 28 = .ok (.aload_n 0, 1) := by decide +kernel
theorem dX5_meet_29 : decode cX5_meet 29 = .ok (.getfield 16, 3) := by decide +kernel
theorem dX5_meet_32 : decode cX5_meet 32 = .ok (.iconst 0, 1) := by decide +kernel
theorem dX5_meet_33 : decode cX5_meet 33 = .ok (.iaload, 1) := by decide +kernel
theorem dX5_meet_34 : decode cX5_meet 34 = .ok (.iload 5, 2) := by decide +kernel
theorem dX5_meet_36 : decode cX5_meet 36 = .ok (.isub, 1) := by decide +kernel
theorem dX5_meet_37 : decode cX5_meet 37 = .ok (.invokestatic 34, 3) := by decide +kernel
theorem dX5_meet_40 : decode cX5_meet 40 = .ok (.aload_n 0, 1) := by decide +kernel
theorem dX5_meet_41 : decode cX5_meet 41 = .ok (.getfield 16, 3) := by decide +kernel
theorem dX5_meet_44 : decode cX5_meet 44 = .ok (.iconst 1, 1) := by decide +kernel
theorem dX5_meet_45 : decode cX5_meet 45 = .ok (.iaload, 1) := by decide +kernel
theorem dX5_meet_46 : decode cX5_meet 46 = .ok (.iload 6, 2) := by decide +kernel
theorem dX5_meet_48 : decode cX5_meet 48 = .ok (.isub, 1) := by decide +kernel
theorem dX5_meet_49 : decode cX5_meet 49 = .ok (.invokestatic 34, 3) := by decide +kernel
theorem dX5_meet_52 : decode cX5_meet 52 = .ok (.iadd, 1) := by decide +kernel
theorem dX5_meet_53 : decode cX5_meet 53 = .ok (.aload_n 0, 1) := by decide +kernel
theorem dX5_meet_54 : decode cX5_meet 54 = .ok (.getfield 16, 3) := by decide +kernel
theorem dX5_meet_57 : decode cX5_meet 57 = .ok (.iconst 2, 1) := by decide +kernel
theorem dX5_meet_58 : decode cX5_meet 58 = .ok (.iaload, 1) := by decide +kernel
theorem dX5_meet_59 : decode cX5_meet 59 = .ok (.iload_n 1, 1) := by decide +kernel
theorem dX5_meet_60 : decode cX5_meet 60 = .ok (.iload 5, 2) := by decide +kernel
theorem dX5_meet_62 : decode cX5_meet 62 = .ok (.isub, 1) := by decide +kernel
theorem dX5_meet_63 : decode cX5_meet 63 = .ok (.iload 6, 2) := by decide +kernel
theorem dX5_meet_65 : decode cX5_meet 65 = .ok (.isub, 1) := by decide +kernel
theorem dX5_meet_66 : decode cX5_meet 66 = .ok (.isub, 1) := by decide +kernel
theorem dX5_meet_67 : decode cX5_meet 67 = .ok (.invokestatic 34, 3) := by decide +kernel
theorem dX5_meet_70 : decode cX5_meet 70 = .ok (.iadd, 1) := by decide +kernel
theorem dX5_meet_71 : decode cX5_meet 71 = .ok (.istore 7, 2) := by decide +kernel
theorem dX5_meet_73 : decode cX5_meet 73 = .ok (.iload 7, 2) := by decide +kernel
theorem dX5_meet_75 : decode cX5_meet 75 = .ok (.iload_n 2, 1) := by decide +kernel
theorem dX5_meet_76 : decode cX5_meet 76 = .ok (.if_icmp .ge 13, 3) := by decide +kernel
theorem dX5_meet_79 : decode cX5_meet 79 = .ok (.iload 7, 2) := by decide +kernel
theorem dX5_meet_81 : decode cX5_meet 81 = .ok (.istore_n 2, 1) := by decide +kernel
theorem dX5_meet_82 : decode cX5_meet 82 = .ok (.iload 5, 2) := by decide +kernel
theorem dX5_meet_84 : decode cX5_meet 84 = .ok (.istore_n 3, 1) := by decide +kernel
theorem dX5_meet_85 : decode cX5_meet 85 = .ok (.iload 6, 2) := by decide +kernel
theorem dX5_meet_87 : decode cX5_meet 87 = .ok (.istore 4, 2) := by decide +kernel
theorem dX5_meet_89 : decode cX5_meet 89 = .ok (.iinc 6 1, 3) := by decide +kernel
theorem dX5_meet_92 : decode cX5_meet 92 = .ok (.goto (-73), 3) := by decide +kernel
theorem dX5_meet_95 : decode cX5_meet 95 = .ok (.iinc 5 1, 3) := by decide +kernel
theorem dX5_meet_98 : decode cX5_meet 98 = .ok (.goto (-88), 3) := by decide +kernel
theorem dX5_meet_101 : decode cX5_meet 101 = .ok (.aload_n 0, 1) := by decide +kernel
theorem dX5_meet_102 : decode cX5_meet 102 = .ok (.getfield 19, 3) := by decide +kernel
theorem dX5_meet_105 : decode cX5_meet 105 = .ok (.iload_n 3, 1) := by decide +kernel
theorem dX5_meet_106 : decode cX5_meet 106 = .ok (.iload 4, 2) := by decide +kernel
theorem dX5_meet_108 : decode cX5_meet 108 = .ok (.iload_n 1, 1) := by decide +kernel
theorem dX5_meet_109 : decode cX5_meet 109 = .ok (.invokestatic 26, 3) := by decide +kernel
theorem dX5_meet_112 : decode cX5_meet 112 = .ok (.iload_n 2, 1) := by decide +kernel
theorem dX5_meet_113 : decode cX5_meet 113 = .ok (.ireturn, 1) := by decide +kernel
theorem dX5_put_0 : decode cX5_put 0 = .ok (.aload_n 0, 1) := by decide +kernel
theorem dX5_put_1 : decode cX5_put 1 = .ok (.arraylength, 1) := by decide +kernel
theorem dX5_put_2 : decode cX5_put 2 = .ok (.iconst 3, 1) := by decide +kernel
theorem dX5_put_3 : decode cX5_put 3 = .ok (.if_icmp .ne 19, 3) := by decide +kernel
theorem dX5_put_6 : decode cX5_put 6 = .ok (.aload_n 0, 1) := by decide +kernel
theorem dX5_put_7 : decode cX5_put 7 = .ok (.iconst 0, 1) := by decide +kernel
theorem dX5_put_8 : decode cX5_put 8 = .ok (.iload_n 1, 1) := by decide +kernel
theorem dX5_put_9 : decode cX5_put 9 = .ok (.iastore, 1) := by decide +kernel
theorem dX5_put_10 : decode cX5_put 10 = .ok (.aload_n 0, 1) := by decide +kernel
theorem dX5_put_11 : decode cX5_put 11 = .ok (.iconst 1, 1) := by decide +kernel
theorem dX5_put_12 : decode cX5_put 12 = .ok (.iload_n 2, 1) := by decide +kernel
theorem dX5_put_13 : decode cX5_put 13 = .ok (.iastore, 1) := by decide +kernel
theorem dX5_put_14 : decode cX5_put 14 = .ok (.aload_n 0, 1) := by decide +kernel
theorem dX5_put_15 : decode cX5_put 15 = .ok (.iconst 2, 1) := by decide +kernel
theorem dX5_put_16 : decode cX5_put 16 = .ok (.iload_n 3, 1) := by decide +kernel
theorem dX5_put_17 : decode cX5_put 17 = .ok (.iload_n 1, 1) := by decide +kernel
theorem dX5_put_18 : decode cX5_put 18 = .ok (.isub, 1) := by decide +kernel
theorem dX5_put_19 : decode cX5_put 19 = .ok (.iload_n 2, 1) := by decide +kernel
theorem dX5_put_20 : decode cX5_put 20 = .ok (.isub, 1) := by decide +kernel
theorem dX5_put_21 : decode cX5_put 21 = .ok (.iastore, 1) := by decide +kernel
theorem dX5_put_22 : decode cX5_put 22 = .ok (.return_, 1) := by decide +kernel
theorem dX6_init_0 : decode cX6_init 0 = .ok (.aload_n 0, 1) := by decide +kernel
theorem dX6_init_1 : decode cX6_init 1 = .ok (.invokespecial 3, 3) := by decide +kernel
theorem dX6_init_4 : decode cX6_init 4 = .ok (.aload_n 0, 1) := by decide +kernel
theorem dX6_init_5 : decode cX6_init 5 = .ok (.sipush 1200, 3) := by decide +kernel
theorem dX6_init_8 : decode cX6_init 8 = .ok (.newarray .byte, 2) := by decide +kernel
theorem dX6_init_10 : decode cX6_init 10 = .ok (.putfield 9, 3) := by decide +kernel
theorem dX6_init_13 : decode cX6_init 13 = .ok (.aload_n 0, 1) := by decide +kernel
theorem dX6_init_14 : decode cX6_init 14 = .ok (.iconst (-1), 1) := by decide +kernel
theorem dX6_init_15 : decode cX6_init 15 = .ok (.putfield 15, 3) := by decide +kernel
theorem dX6_init_18 : decode cX6_init 18 = .ok (.aload_n 0, 1) := by decide +kernel
theorem dX6_init_19 : decode cX6_init 19 = .ok (.aload_n 1, 1) := by decide +kernel
theorem dX6_init_20 : decode cX6_init 20 = .ok (.putfield 19, 3) := by decide +kernel
theorem dX6_init_23 : decode cX6_init 23 = .ok (.return_, 1) := by decide +kernel
theorem dX6_hasRoom_0 : decode cX6_hasRoom 0 = .ok (.aload_n 0, 1) := by decide +kernel
theorem dX6_hasRoom_1 : decode cX6_hasRoom 1 = .ok (.getfield 23, 3) := by decide +kernel
theorem dX6_hasRoom_4 : decode cX6_hasRoom 4 = .ok (.iload_n 1, 1) := by decide +kernel
theorem dX6_hasRoom_5 : decode cX6_hasRoom 5 = .ok (.iadd, 1) := by decide +kernel
theorem dX6_hasRoom_6 : decode cX6_hasRoom 6 = .ok (.sipush 1200, 3) := by decide +kernel
theorem dX6_hasRoom_9 : decode cX6_hasRoom 9 = .ok (.if_icmp .gt 7, 3) := by decide +kernel
theorem dX6_hasRoom_12 : decode cX6_hasRoom 12 = .ok (.iconst 1, 1) := by decide +kernel
theorem dX6_hasRoom_13 : decode cX6_hasRoom 13 = .ok (.goto 4, 3) := by decide +kernel
theorem dX6_hasRoom_16 : decode cX6_hasRoom 16 = .ok (.iconst 0, 1) := by decide +kernel
theorem dX6_hasRoom_17 : decode cX6_hasRoom 17 = .ok (.ireturn, 1) := by decide +kernel
theorem dX6_take_0 : decode cX6_take 0 = .ok (.bipush 24, 2) := by decide +kernel
theorem dX6_take_2 : decode cX6_take 2 = .ok (.istore_n 2, 1) := by decide +kernel
theorem dX6_take_3 : decode cX6_take 3 = .ok (.iload_n 2, 1) := by decide +kernel
theorem dX6_take_4 : decode cX6_take 4 = .ok (.ifCond .lt 44, 3) := by decide +kernel
theorem dX6_take_7 : decode cX6_take 7 = .ok (.aload_n 0, 1) := by decide +kernel
theorem dX6_take_8 : decode cX6_take 8 = .ok (.getfield 23, 3) := by decide +kernel
theorem dX6_take_11 : decode cX6_take 11 = .ok (.aload_n 0, 1) := by decide +kernel
theorem dX6_take_12 : decode cX6_take 12 = .ok (.getfield 9, 3) := by decide +kernel
theorem dX6_take_15 : decode cX6_take 15 = .ok (.arraylength, 1) := by decide +kernel
theorem dX6_take_16 : decode cX6_take 16 = .ok (.if_icmp .ge 26, 3) := by decide +kernel
theorem dX6_take_19 : decode cX6_take 19 = .ok (.aload_n 0, 1) := by decide +kernel
theorem dX6_take_20 : decode cX6_take 20 = .ok (.getfield 9, 3) := by decide +kernel
theorem dX6_take_23 : decode cX6_take 23 = .ok (.aload_n 0, 1) := by decide +kernel
theorem dX6_take_24 : decode cX6_take 24 = .ok (.getfield 23, 3) := by decide +kernel
theorem dX6_take_27 : decode cX6_take 27 = .ok (.iload_n 1, 1) := by decide +kernel
theorem dX6_take_28 : decode cX6_take 28 = .ok (.iload_n 2, 1) := by decide +kernel
theorem dX6_take_29 : decode cX6_take 29 = .ok (.ishr, 1) := by decide +kernel
theorem dX6_take_30 : decode cX6_take 30 = .ok (.i2b, 1) := by decide +kernel
theorem dX6_take_31 : decode cX6_take 31 = .ok (.bastore, 1) := by decide +kernel
theorem dX6_take_32 : decode cX6_take 32 = .ok (.aload_n 0, 1) := by decide +kernel
theorem dX6_take_33 : decode cX6_take 33 = .ok (.dup, 1) := by decide +kernel
theorem dX6_take_34 : decode cX6_take 34 = .ok (.getfield 23, 3) := by decide +kernel
theorem dX6_take_37 : decode cX6_take 37 = .ok (.iconst 1, 1) := by decide +kernel
theorem dX6_take_38 : decode cX6_take 38 = .ok (.iadd, 1) := by decide +kernel
theorem dX6_take_39 : decode cX6_take 39 = .ok (.putfield 23, 3) := by decide +kernel
theorem dX6_take_42 : decode cX6_take 42 = .ok (.iinc 2 (-8), 3) := by decide +kernel
theorem dX6_take_45 : decode cX6_take 45 = .ok (.goto (-42), 3) := by decide +kernel
theorem dX6_take_48 : decode cX6_take 48 = .ok (.return_, 1) := by decide +kernel
theorem dX6_cut_0 : decode cX6_cut 0 = .ok (.iload_n 1, 1) := by decide +kernel
theorem dX6_cut_1 : decode cX6_cut 1 = .ok (.ifCond .lt 11, 3) := by decide +kernel
theorem dX6_cut_4 : decode cX6_cut 4 = .ok (.iload_n 1, 1) := by decide +kernel
theorem dX6_cut_5 : decode cX6_cut 5 = .ok (.aload_n 0, 1) := by decide +kernel
theorem dX6_cut_6 : decode cX6_cut 6 = .ok (.getfield 23, 3) := by decide +kernel
theorem dX6_cut_9 : decode cX6_cut 9 = .ok (.if_icmp .le 5, 3) := by decide +kernel
theorem dX6_cut_12 : decode cX6_cut 12 = .ok (.iconst 0, 1) := by decide +kernel
theorem dX6_cut_13 : decode cX6_cut 13 = .ok (.ireturn, 1) := by decide +kernel
theorem dX6_cut_14 : decode cX6_cut 14 = .ok (.aload_n 0, 1) := by decide +kernel
theorem dX6_cut_15 : decode cX6_cut 15 = .ok (.iload_n 1, 1) := by decide +kernel
theorem dX6_cut_16 : decode cX6_cut 16 = .ok (.putfield 23, 3) := by decide +kernel
theorem dX6_cut_19 : decode cX6_cut 19 = .ok (.iconst 1, 1) := by decide +kernel
theorem dX6_cut_20 : decode cX6_cut 20 = .ok (.ireturn, 1) := by decide +kernel
theorem dX6_read_0 : decode cX6_read 0 = .ok (.aload_n 0, 1) := by decide +kernel
theorem dX6_read_1 : decode cX6_read 1 = .ok (.getfield 19, 3) := by decide +kernel
theorem dX6_read_4 : decode cX6_read 4 = .ok (.invokevirtual 26, 3) := by decide +kernel
theorem dX6_read_7 : decode cX6_read 7 = .ok (.aload_n 0, 1) := by decide +kernel
theorem dX6_read_8 : decode cX6_read 8 = .ok (.iconst 0, 1) := by decide +kernel
theorem dX6_read_9 : decode cX6_read 9 = .ok (.putfield 31, 3) := by decide +kernel
theorem dX6_read_12 : decode cX6_read 12 = .ok (.aload_n 0, 1) := by decide +kernel
theorem dX6_read_13 : decode cX6_read 13 = .ok (.iconst (-1), 1) := by decide +kernel
theorem dX6_read_14 : decode cX6_read 14 = .ok (.putfield 15, 3) := by decide +kernel
theorem dX6_read_17 : decode cX6_read 17 = .ok (.aload_n 0, 1) := by decide +kernel
theorem dX6_read_18 : decode cX6_read 18 = .ok (.iconst 0, 1) := by decide +kernel
theorem dX6_read_19 : decode cX6_read 19 = .ok (.putfield 34, 3) := by decide +kernel
theorem dX6_read_22 : decode cX6_read 22 = .ok (.aload_n 0, 1) := by decide +kernel
theorem dX6_read_23 : decode cX6_read 23 = .ok (.invokevirtual 37, 3) := by decide +kernel
theorem dX6_read_26 : decode cX6_read 26 = .ok (.iconst 0, 1) := by decide +kernel
theorem dX6_read_27 : decode cX6_read 27 = .ok (.istore_n 1, 1) := by decide +kernel
theorem dX6_read_28 : decode cX6_read 28 = .ok (.iload_n 1, 1) := by decide +kernel
theorem dX6_read_29 : decode cX6_read 29 = .ok (.sipush 1200, 3) := by decide +kernel
theorem dX6_read_32 : decode cX6_read 32 = .ok (.if_icmp .ge 44, 3) := by decide +kernel
theorem dX6_read_35 : decode cX6_read 35 = .ok (.aload_n 0, 1) := by decide +kernel
theorem dX6_read_36 : decode cX6_read 36 = .ok (.getfield 40, 3) := by decide +kernel
theorem dX6_read_39 : decode cX6_read 39 = .ok (.ifCond .eq 37, 3) := by decide +kernel
theorem dX6_read_42 : decode cX6_read 42 = .ok (.aload_n 0, 1) := by decide +kernel
theorem dX6_read_43 : decode cX6_read 43 = .ok (.getfield 31, 3) := by decide +kernel
theorem dX6_read_46 : decode cX6_read 46 = .ok (.ifCond .ne 30, 3) := by decide +kernel
theorem dX6_read_49 : decode cX6_read 49 = .ok (.aload_n 0, 1) := by decide +kernel
theorem dX6_read_50 : decode cX6_read 50 = .ok (.invokevirtual 43, 3) := by decide +kernel
theorem dX6_read_53 : decode cX6_read 53 = .ok (.aload_n 0, 1) := by decide +kernel
theorem dX6_read_54 : decode cX6_read 54 = .ok (.invokevirtual 46, 3) := by decide +kernel
theorem dX6_read_57 : decode cX6_read 57 = .ok (.aload_n 0, 1) := by decide +kernel
theorem dX6_read_58 : decode cX6_read 58 = .ok (.getfield 19, 3) := by decide +kernel
theorem dX6_read_61 : decode cX6_read 61 = .ok (.dup, 1) := by decide +kernel
theorem dX6_read_62 : decode cX6_read 62 = .ok (.getfield 49, 3) := by decide +kernel
theorem dX6_read_65 : decode cX6_read 65 = .ok (.iconst 1, 1) := by decide +kernel
theorem dX6_read_66 : decode cX6_read 66 = .ok (.iadd, 1) := by decide +kernel
theorem dX6_read_67 : decode cX6_read 67 = .ok (.putfield 49, 3) := by decide +kernel
theorem dX6_read_70 : decode cX6_read 70 = .ok (.iinc 1 1, 3) := by decide +kernel
theorem dX6_read_73 : decode cX6_read 73 = .ok (.goto (-45), 3) := by decide +kernel
theorem dX6_read_76 : decode cX6_read 76 = .ok (.return_, 1) := by decide +kernel
theorem dX6_readLine_0 : decode cX6_readLine 0 = .ok (.aload_n 0, 1) := by decide +kernel
theorem dX6_readLine_1 : decode cX6_readLine 1 = .ok (.getfield 19, 3) := by decide +kernel
theorem dX6_readLine_4 : decode cX6_readLine 4 = .ok (.getfield 49, 3) := by decide +kernel
theorem dX6_readLine_7 : decode cX6_readLine 7 = .ok (.ifCond .ne 10, 3) := by decide +kernel
theorem dX6_readLine_10 : decode cX6_readLine 10 = .ok (.aload_n 0, 1) := by decide +kernel
theorem dX6_readLine_11 : decode cX6_readLine 11 = .ok (.invokevirtual 52, 3) := by decide +kernel
theorem dX6_readLine_14 : decode cX6_readLine 14 = .ok (.goto 118, 3) := by decide +kernel
theorem dX6_readLine_17 : decode cX6_readLine 17 = .ok (.aload_n 0, 1) := by decide +kernel
theorem dX6_readLine_18 : decode cX6_readLine 18 = .ok (.ldc 55, 2) := by decide +kernel
theorem dX6_readLine_20 : decode cX6_readLine 20 = .ok (.invokevirtual 57, 3) := by decide +kernel
theorem dX6_readLine_23 : decode cX6_readLine 23 = .ok (.ifCond .eq 10, 3) := by decide +kernel
theorem dX6_readLine_26 : decode cX6_readLine 26 = .ok (.aload_n 0, 1) := by decide +kernel
theorem dX6_readLine_27 : decode cX6_readLine 27 = .ok (.invokevirtual 61, 3) := by decide +kernel
theorem dX6_readLine_30 : decode cX6_readLine 30 = .ok (.goto 102, 3) := by decide +kernel
theorem dX6_readLine_33 : decode cX6_readLine 33 = .ok (.aload_n 0, 1) := by decide +kernel
theorem dX6_readLine_34 : decode cX6_readLine 34 = .ok (.ldc 64, 2) := by decide +kernel
theorem dX6_readLine_36 : decode cX6_readLine 36 = .ok (.invokevirtual 57, 3) := by decide +kernel
theorem dX6_readLine_39 : decode cX6_readLine 39 = .ok (.ifCond .eq 10, 3) := by decide +kernel
theorem dX6_readLine_42 : decode cX6_readLine 42 = .ok (.aload_n 0, 1) := by decide +kernel
theorem dX6_readLine_43 : decode cX6_readLine 43 = .ok (.invokevirtual 66, 3) := by decide +kernel
theorem dX6_readLine_46 : decode cX6_readLine 46 = .ok (.goto 86, 3) := by decide +kernel
theorem dX6_readLine_49 : decode cX6_readLine 49 = .ok (.aload_n 0, 1) := by decide +kernel
theorem dX6_readLine_50 : decode cX6_readLine 50 = .ok (.ldc 69, 2) := by decide +kernel
theorem dX6_readLine_52 : decode cX6_readLine 52 = .ok (.invokevirtual 57, 3) := by decide +kernel
theorem dX6_readLine_55 : decode cX6_readLine 55 = .ok (.ifCond .eq 17, 3) := by decide +kernel
theorem dX6_readLine_58 : decode cX6_readLine 58 = .ok (.aload_n 0, 1) := by decide +kernel
theorem dX6_readLine_59 : decode cX6_readLine 59 = .ok (.aload_n 0, 1) := by decide +kernel
theorem dX6_readLine_60 : decode cX6_readLine 60 = .ok (.getfield 19, 3) := by decide +kernel
theorem dX6_readLine_63 : decode cX6_readLine 63 = .ok (.getfield 71, 3) := by decide +kernel
theorem dX6_readLine_66 : decode cX6_readLine 66 = .ok (.invokevirtual 75, 3) := by decide +kernel
theorem dX6_readLine_69 : decode cX6_readLine 69 = .ok (.goto 63, 3) := by decide +kernel
theorem dX6_readLine_72 : decode cX6_readLine 72 = .ok (.aload_n 0, 1) := by decide +kernel
theorem dX6_readLine_73 : decode cX6_readLine 73 = .ok (.ldc 79, 2) := by decide +kernel
theorem dX6_readLine_75 : decode cX6_readLine 75 = .ok (.invokevirtual 57, 3) := by decide +kernel
theorem dX6_readLine_78 : decode cX6_readLine 78 = .ok (.ifCond .eq 10, 3) := by decide +kernel
theorem dX6_readLine_81 : decode cX6_readLine 81 = .ok (.aload_n 0, 1) := by decide +kernel
theorem dX6_readLine_82 : decode cX6_readLine 82 = .ok (.invokevirtual 81, 3) := by decide +kernel
theorem dX6_readLine_85 : decode cX6_readLine 85 = .ok (.goto 47, 3) := by decide +kernel
theorem dX6_readLine_88 : decode cX6_readLine 88 = .ok (.aload_n 0, 1) := by decide +kernel
theorem dX6_readLine_89 : decode cX6_readLine 89 = .ok (.ldc 84, 2) := by decide +kernel
theorem dX6_readLine_91 : decode cX6_readLine 91 = .ok (.invokevirtual 57, 3) := by decide +kernel
theorem dX6_readLine_94 : decode cX6_readLine 94 = .ok (.ifCond .eq 17, 3) := by decide +kernel
theorem dX6_readLine_97 : decode cX6_readLine 97 = .ok (.aload_n 0, 1) := by decide +kernel
theorem dX6_readLine_98 : decode cX6_readLine 98 = .ok (.aload_n 0, 1) := by decide +kernel
theorem dX6_readLine_99 : decode cX6_readLine 99 = .ok (.getfield 19, 3) := by decide +kernel
theorem dX6_readLine_102 : decode cX6_readLine 102 = .ok (.getfield 86, 3) := by decide +kernel
theorem dX6_readLine_105 : decode cX6_readLine 105 = .ok (.invokevirtual 75, 3) := by decide +kernel
theorem dX6_readLine_108 : decode cX6_readLine 108 = .ok (.goto 24, 3) := by decide +kernel
theorem dX6_readLine_111 : decode cX6_readLine 111 = .ok (.aload_n 0, 1) := by decide +kernel
theorem dX6_readLine_112 : decode cX6_readLine 112 = .ok (.ldc 89, 2) := by decide +kernel
theorem dX6_readLine_114 : decode cX6_readLine 114 = .ok (.invokevirtual 57, 3) := by decide +kernel
theorem dX6_readLine_117 : decode cX6_readLine 117 = .ok (.ifCond .eq 10, 3) := by decide +kernel
theorem dX6_readLine_120 : decode cX6_readLine 120 = .ok (.aload_n 0, 1) := by decide +kernel
theorem dX6_readLine_121 : decode cX6_readLine 121 = .ok (.invokevirtual 91, 3) := by decide +kernel
theorem dX6_readLine_124 : decode cX6_readLine 124 = .ok (.goto 8, 3) := by decide +kernel
theorem dX6_readLine_127 : decode cX6_readLine 127 = .ok (.aload_n 0, 1) := by decide +kernel
theorem dX6_readLine_128 : decode cX6_readLine 128 = .ok (.iconst 1, 1) := by decide +kernel
theorem dX6_readLine_129 : decode cX6_readLine 129 = .ok (.invokevirtual 94, 3) := by decide +kernel
theorem dX6_readLine_132 : decode cX6_readLine 132 = .ok (.return_, 1) := by decide +kernel
theorem dX6_readWar_0 : decode cX6_readWar 0 = .ok (.aload_n 0, 1) := by decide +kernel
theorem dX6_readWar_1 : decode cX6_readWar 1 = .ok (.ldc 98, 2) := by decide +kernel
theorem dX6_readWar_3 : decode cX6_readWar 3 = .ok (.invokevirtual 99, 3) := by decide +kernel
theorem dX6_readWar_6 : decode cX6_readWar 6 = .ok (.aload_n 0, 1) := by decide +kernel
theorem dX6_readWar_7 : decode cX6_readWar 7 = .ok (.ldc 103, 2) := by decide +kernel
theorem dX6_readWar_9 : decode cX6_readWar 9 = .ok (.invokevirtual 99, 3) := by decide +kernel
theorem dX6_readWar_12 : decode cX6_readWar 12 = .ok (.aload_n 0, 1) := by decide +kernel
theorem dX6_readWar_13 : decode cX6_readWar 13 = .ok (.getfield 19, 3) := by decide +kernel
theorem dX6_readWar_16 : decode cX6_readWar 16 = .ok (.aload_n 0, 1) := by decide +kernel
theorem dX6_readWar_17 : decode cX6_readWar 17 = .ok (.iconst 1, 1) := by decide +kernel
theorem dX6_readWar_18 : decode cX6_readWar 18 = .ok (.bipush 60, 2) := by decide +kernel
theorem dX6_readWar_20 : decode cX6_readWar 20 = .ok (.invokevirtual 105, 3) := by decide +kernel
theorem dX6_readWar_23 : decode cX6_readWar 23 = .ok (.putfield 109, 3) := by decide +kernel
theorem dX6_readWar_26 : decode cX6_readWar 26 = .ok (.aload_n 0, 1) := by decide +kernel
theorem dX6_readWar_27 : decode cX6_readWar 27 = .ok (.ldc 111, 2) := by decide +kernel
theorem dX6_readWar_29 : decode cX6_readWar 29 = .ok (.invokevirtual 99, 3) := by decide +kernel
theorem dX6_readWar_32 : decode cX6_readWar 32 = .ok (.aload_n 0, 1) := by decide +kernel
theorem dX6_readWar_33 : decode cX6_readWar 33 = .ok (.getfield 19, 3) := by decide +kernel
theorem dX6_readWar_36 : decode cX6_readWar 36 = .ok (.aload_n 0, 1) := by decide +kernel
theorem dX6_readWar_37 : decode cX6_readWar 37 = .ok (.iconst 0, 1) := by decide +kernel
theorem dX6_readWar_38 : decode cX6_readWar 38 = .ok (.aload_n 0, 1) := by decide +kernel
theorem dX6_readWar_39 : decode cX6_readWar 39 = .ok (.getfield 19, 3) := by decide +kernel
theorem dX6_readWar_42 : decode cX6_readWar 42 = .ok (.getfield 109, 3) := by decide +kernel
theorem dX6_readWar_45 : decode cX6_readWar 45 = .ok (.iconst 1, 1) := by decide +kernel
theorem dX6_readWar_46 : decode cX6_readWar 46 = .ok (.isub, 1) := by decide +kernel
theorem dX6_readWar_47 : decode cX6_readWar 47 = .ok (.invokevirtual 105, 3) := by decide +kernel
theorem dX6_readWar_50 : decode cX6_readWar 50 = .ok (.putfield 113, 3) := by decide +kernel
theorem dX6_readWar_53 : decode cX6_readWar 53 = .ok (.aload_n 0, 1) := by decide +kernel
theorem dX6_readWar_54 : decode cX6_readWar 54 = .ok (.ldc 116, 2) := by decide +kernel
theorem dX6_readWar_56 : decode cX6_readWar 56 = .ok (.invokevirtual 99, 3) := by decide +kernel
theorem dX6_readWar_59 : decode cX6_readWar 59 = .ok (.aload_n 0, 1) := by decide +kernel
theorem dX6_readWar_60 : decode cX6_readWar 60 = .ok (.getfield 19, 3) := by decide +kernel
theorem dX6_readWar_63 : decode cX6_readWar 63 = .ok (.aload_n 0, 1) := by decide +kernel
theorem dX6_readWar_64 : decode cX6_readWar 64 = .ok (.iconst 0, 1) := by decide +kernel
theorem dX6_readWar_65 : decode cX6_readWar 65 = .ok (.bipush 60, 2) := by decide +kernel
theorem dX6_readWar_67 : decode cX6_readWar 67 = .ok (.invokevirtual 105, 3) := by decide +kernel
theorem dX6_readWar_70 : decode cX6_readWar 70 = .ok (.putfield 118, 3) := by decide +kernel
theorem dX6_readWar_73 : decode cX6_readWar 73 = .ok (.aload_n 0, 1) := by decide +kernel
theorem dX6_readWar_74 : decode cX6_readWar 74 = .ok (.ldc 120, 2) := by decide +kernel
theorem dX6_readWar_76 : decode cX6_readWar 76 = .ok (.invokevirtual 99, 3) := by decide +kernel
theorem dX6_readWar_79 : decode cX6_readWar 79 = .ok (.aload_n 0, 1) := by decide +kernel
theorem dX6_readWar_80 : decode cX6_readWar 80 = .ok (.getfield 19, 3) := by decide +kernel
theorem dX6_readWar_83 : decode cX6_readWar 83 = .ok (.aload_n 0, 1) := by decide +kernel
theorem dX6_readWar_84 : decode cX6_readWar 84 = .ok (.iconst 0, 1) := by decide +kernel
theorem dX6_readWar_85 : decode cX6_readWar 85 = .ok (.bipush 100, 2) := by decide +kernel
theorem dX6_readWar_87 : decode cX6_readWar 87 = .ok (.invokevirtual 105, 3) := by decide +kernel
theorem dX6_readWar_90 : decode cX6_readWar 90 = .ok (.putfield 122, 3) := by decide +kernel
theorem dX6_readWar_93 : decode cX6_readWar 93 = .ok (.return_, 1) := by decide +kernel
theorem dX6_readNeed_0 : decode cX6_readNeed 0 = .ok (.aload_n 0, 1) := by decide +kernel
theorem dX6_readNeed_1 : decode cX6_readNeed 1 = .ok (.invokevirtual 37, 3) := by decide +kernel
theorem dX6_readNeed_4 : decode cX6_readNeed 4 = .ok (.aload_n 0, 1) := by decide +kernel
theorem dX6_readNeed_5 : decode cX6_readNeed 5 = .ok (.iconst 0, 1) := by decide +kernel
theorem dX6_readNeed_6 : decode cX6_readNeed 6 = .ok (.iconst 1, 1) := by decide +kernel
theorem dX6_readNeed_7 : decode cX6_readNeed 7 = .ok (.invokevirtual 105, 3) := by decide +kernel
theorem dX6_readNeed_10 : decode cX6_readNeed 10 = .ok (.istore_n 1, 1) := by decide +kernel
theorem dX6_readNeed_11 : decode cX6_readNeed 11 = .ok (.aload_n 0, 1) := by decide +kernel
theorem dX6_readNeed_12 : decode cX6_readNeed 12 = .ok (.getfield 19, 3) := by decide +kernel
theorem dX6_readNeed_15 : decode cX6_readNeed 15 = .ok (.iload_n 1, 1) := by decide +kernel
theorem dX6_readNeed_16 : decode cX6_readNeed 16 = .ok (.aload_n 0, 1) := by decide +kernel
theorem dX6_readNeed_17 : decode cX6_readNeed 17 = .ok (.iconst 0, 1) := by decide +kernel
theorem dX6_readNeed_18 : decode cX6_readNeed 18 = .ok (.sipush 999, 3) := by decide +kernel
theorem dX6_readNeed_21 : decode cX6_readNeed 21 = .ok (.invokevirtual 105, 3) := by decide +kernel
theorem dX6_readNeed_24 : decode cX6_readNeed 24 = .ok (.invokevirtual 124, 3) := by decide +kernel
theorem dX6_readNeed_27 : decode cX6_readNeed 27 = .ok (.return_, 1) := by decide +kernel
theorem dX6_readTrain_0 : decode cX6_readTrain 0 = .ok (.aload_n 0, 1) := by decide +kernel
theorem dX6_readTrain_1 : decode cX6_readTrain 1 = .ok (.aload_n 0, 1) := by decide +kernel
theorem dX6_readTrain_2 : decode cX6_readTrain 2 = .ok (.getfield 19, 3) := by decide +kernel
theorem dX6_readTrain_5 : decode cX6_readTrain 5 = .ok (.getfield 128, 3) := by decide +kernel
theorem dX6_readTrain_8 : decode cX6_readTrain 8 = .ok (.invokevirtual 131, 3) := by decide +kernel
theorem dX6_readTrain_11 : decode cX6_readTrain 11 = .ok (.aload_n 0, 1) := by decide +kernel
theorem dX6_readTrain_12 : decode cX6_readTrain 12 = .ok (.aload_n 0, 1) := by decide +kernel
theorem dX6_readTrain_13 : decode cX6_readTrain 13 = .ok (.getfield 19, 3) := by decide +kernel
theorem dX6_readTrain_16 : decode cX6_readTrain 16 = .ok (.getfield 128, 3) := by decide +kernel
theorem dX6_readTrain_19 : decode cX6_readTrain 19 = .ok (.iconst 0, 1) := by decide +kernel
theorem dX6_readTrain_20 : decode cX6_readTrain 20 = .ok (.iconst 0, 1) := by decide +kernel
theorem dX6_readTrain_21 : decode cX6_readTrain 21 = .ok (.iconst 1, 1) := by decide +kernel
theorem dX6_readTrain_22 : decode cX6_readTrain 22 = .ok (.invokevirtual 134, 3) := by decide +kernel
theorem dX6_readTrain_25 : decode cX6_readTrain 25 = .ok (.aload_n 0, 1) := by decide +kernel
theorem dX6_readTrain_26 : decode cX6_readTrain 26 = .ok (.ldc 138, 2) := by decide +kernel
theorem dX6_readTrain_28 : decode cX6_readTrain 28 = .ok (.invokevirtual 99, 3) := by decide +kernel
theorem dX6_readTrain_31 : decode cX6_readTrain 31 = .ok (.aload_n 0, 1) := by decide +kernel
theorem dX6_readTrain_32 : decode cX6_readTrain 32 = .ok (.aload_n 0, 1) := by decide +kernel
theorem dX6_readTrain_33 : decode cX6_readTrain 33 = .ok (.getfield 19, 3) := by decide +kernel
theorem dX6_readTrain_36 : decode cX6_readTrain 36 = .ok (.getfield 128, 3) := by decide +kernel
theorem dX6_readTrain_39 : decode cX6_readTrain 39 = .ok (.iconst 1, 1) := by decide +kernel
theorem dX6_readTrain_40 : decode cX6_readTrain 40 = .ok (.iconst 1, 1) := by decide +kernel
theorem dX6_readTrain_41 : decode cX6_readTrain 41 = .ok (.bipush 99, 2) := by decide +kernel
theorem dX6_readTrain_43 : decode cX6_readTrain 43 = .ok (.invokevirtual 134, 3) := by decide +kernel
theorem dX6_readTrain_46 : decode cX6_readTrain 46 = .ok (.aload_n 0, 1) := by decide +kernel
theorem dX6_readTrain_47 : decode cX6_readTrain 47 = .ok (.ldc 140, 2) := by decide +kernel
theorem dX6_readTrain_49 : decode cX6_readTrain 49 = .ok (.invokevirtual 99, 3) := by decide +kernel
theorem dX6_readTrain_52 : decode cX6_readTrain 52 = .ok (.aload_n 0, 1) := by decide +kernel
theorem dX6_readTrain_53 : decode cX6_readTrain 53 = .ok (.aload_n 0, 1) := by decide +kernel
theorem dX6_readTrain_54 : decode cX6_readTrain 54 = .ok (.getfield 19, 3) := by decide +kernel
theorem dX6_readTrain_57 : decode cX6_readTrain 57 = .ok (.getfield 128, 3) := by decide +kernel
theorem dX6_readTrain_60 : decode cX6_readTrain 60 = .ok (.iconst 2, 1) := by decide +kernel
theorem dX6_readTrain_61 : decode cX6_readTrain 61 = .ok (.iconst 0, 1) := by decide +kernel
theorem dX6_readTrain_62 : decode cX6_readTrain 62 = .ok (.bipush 59, 2) := by decide +kernel
theorem dX6_readTrain_64 : decode cX6_readTrain 64 = .ok (.invokevirtual 134, 3) := by decide +kernel
theorem dX6_readTrain_67 : decode cX6_readTrain 67 = .ok (.aload_n 0, 1) := by decide +kernel
theorem dX6_readTrain_68 : decode cX6_readTrain 68 = .ok (.ldc 142, 2) := by decide +kernel
theorem dX6_readTrain_70 : decode cX6_readTrain 70 = .ok (.invokevirtual 99, 3) := by decide +kernel
theorem dX6_readTrain_73 : decode cX6_readTrain 73 = .ok (.aload_n 0, 1) := by decide +kernel
theorem dX6_readTrain_74 : decode cX6_readTrain 74 = .ok (.aload_n 0, 1) := by decide +kernel
theorem dX6_readTrain_75 : decode cX6_readTrain 75 = .ok (.getfield 19, 3) := by decide +kernel
theorem dX6_readTrain_78 : decode cX6_readTrain 78 = .ok (.getfield 128, 3) := by decide +kernel
theorem dX6_readTrain_81 : decode cX6_readTrain 81 = .ok (.iconst 3, 1) := by decide +kernel
theorem dX6_readTrain_82 : decode cX6_readTrain 82 = .ok (.iconst 0, 1) := by decide +kernel
theorem dX6_readTrain_83 : decode cX6_readTrain 83 = .ok (.bipush 100, 2) := by decide +kernel
theorem dX6_readTrain_85 : decode cX6_readTrain 85 = .ok (.invokevirtual 134, 3) := by decide +kernel
theorem dX6_readTrain_88 : decode cX6_readTrain 88 = .ok (.aload_n 0, 1) := by decide +kernel
theorem dX6_readTrain_89 : decode cX6_readTrain 89 = .ok (.ldc 144, 2) := by decide +kernel
theorem dX6_readTrain_91 : decode cX6_readTrain 91 = .ok (.invokevirtual 99, 3) := by decide +kernel
theorem dX6_readTrain_94 : decode cX6_readTrain 94 = .ok (.aload_n 0, 1) := by decide +kernel
theorem dX6_readTrain_95 : decode cX6_readTrain 95 = .ok (.aload_n 0, 1) := by decide +kernel
theorem dX6_readTrain_96 : decode cX6_readTrain 96 = .ok (.getfield 19, 3) := by decide +kernel
theorem dX6_readTrain_99 : decode cX6_readTrain 99 = .ok (.getfield 128, 3) := by decide +kernel
theorem dX6_readTrain_102 : decode cX6_readTrain 102 = .ok (.iconst 4, 1) := by decide +kernel
theorem dX6_readTrain_103 : decode cX6_readTrain 103 = .ok (.iconst 1, 1) := by decide +kernel
theorem dX6_readTrain_104 : decode cX6_readTrain 104 = .ok (.bipush 30, 2) := by decide +kernel
theorem dX6_readTrain_106 : decode cX6_readTrain 106 = .ok (.invokevirtual 134, 3) := by decide +kernel
theorem dX6_readTrain_109 : decode cX6_readTrain 109 = .ok (.aload_n 0, 1) := by decide +kernel
theorem dX6_readTrain_110 : decode cX6_readTrain 110 = .ok (.ldc 146, 2) := by decide +kernel
theorem dX6_readTrain_112 : decode cX6_readTrain 112 = .ok (.invokevirtual 99, 3) := by decide +kernel
theorem dX6_readTrain_115 : decode cX6_readTrain 115 = .ok (.aload_n 0, 1) := by decide +kernel
theorem dX6_readTrain_116 : decode cX6_readTrain 116 = .ok (.aload_n 0, 1) := by decide +kernel
theorem dX6_readTrain_117 : decode cX6_readTrain 117 = .ok (.getfield 19, 3) := by decide +kernel
theorem dX6_readTrain_120 : decode cX6_readTrain 120 = .ok (.getfield 128, 3) := by decide +kernel
theorem dX6_readTrain_123 : decode cX6_readTrain 123 = .ok (.iconst 5, 1) := by decide +kernel
theorem dX6_readTrain_124 : decode cX6_readTrain 124 = .ok (.iconst 0, 1) := by decide +kernel
theorem dX6_readTrain_125 : decode cX6_readTrain 125 = .ok (.sipush 999, 3) := by decide +kernel
theorem dX6_readTrain_128 : decode cX6_readTrain 128 = .ok (.invokevirtual 134, 3) := by decide +kernel
theorem dX6_readTrain_131 : decode cX6_readTrain 131 = .ok (.return_, 1) := by decide +kernel
theorem dX6_readSpan_0 : decode cX6_readSpan 0 = .ok (.aload_n 0, 1) := by decide +kernel
theorem dX6_readSpan_1 : decode cX6_readSpan 1 = .ok (.aload_n 1, 1) := by decide +kernel
theorem dX6_readSpan_2 : decode cX6_readSpan 2 = .ok (.invokevirtual 131, 3) := by decide +kernel
theorem dX6_readSpan_5 : decode cX6_readSpan 5 = .ok (.aload_n 0, 1) := by decide +kernel
theorem dX6_readSpan_6 : decode cX6_readSpan 6 = .ok (.aload_n 1, 1) := by decide +kernel
theorem dX6_readSpan_7 : decode cX6_readSpan 7 = .ok (.iconst 0, 1) := by decide +kernel
theorem dX6_readSpan_8 : decode cX6_readSpan 8 = .ok (.iconst 0, 1) := by decide +kernel
theorem dX6_readSpan_9 : decode cX6_readSpan 9 = .ok (.bipush 59, 2) := by decide +kernel
theorem dX6_readSpan_11 : decode cX6_readSpan 11 = .ok (.invokevirtual 134, 3) := by decide +kernel
theorem dX6_readSpan_14 : decode cX6_readSpan 14 = .ok (.aload_n 0, 1) := by decide +kernel
theorem dX6_readSpan_15 : decode cX6_readSpan 15 = .ok (.ldc 148, 2) := by decide +kernel
theorem dX6_readSpan_17 : decode cX6_readSpan 17 = .ok (.invokevirtual 99, 3) := by decide +kernel
theorem dX6_readSpan_20 : decode cX6_readSpan 20 = .ok (.aload_n 0, 1) := by decide +kernel
theorem dX6_readSpan_21 : decode cX6_readSpan 21 = .ok (.aload_n 1, 1) := by decide +kernel
theorem dX6_readSpan_22 : decode cX6_readSpan 22 = .ok (.iconst 1, 1) := by decide +kernel
theorem dX6_readSpan_23 : decode cX6_readSpan 23 = .ok (.aload_n 1, 1) := by decide +kernel
theorem dX6_readSpan_24 : decode cX6_readSpan 24 = .ok (.aload_n 1, 1) := by decide +kernel
theorem dX6_readSpan_25 : decode cX6_readSpan 25 = .ok (.getfield 149, 3) := by decide +kernel
theorem dX6_readSpan_28 : decode cX6_readSpan 28 = .ok (.iconst 1, 1) := by decide +kernel
theorem dX6_readSpan_29 : decode cX6_readSpan 29 = .ok (.isub, 1) := by decide +kernel
theorem dX6_readSpan_30 : decode cX6_readSpan 30 = .ok (.iconst 0, 1) := by decide +kernel
theorem dX6_readSpan_31 : decode cX6_readSpan 31 = .ok (.invokevirtual 154, 3) := by decide +kernel
theorem dX6_readSpan_34 : decode cX6_readSpan 34 = .ok (.bipush 59, 2) := by decide +kernel
theorem dX6_readSpan_36 : decode cX6_readSpan 36 = .ok (.invokevirtual 134, 3) := by decide +kernel
theorem dX6_readSpan_39 : decode cX6_readSpan 39 = .ok (.return_, 1) := by decide +kernel
theorem dX6_readAsk_0 : decode cX6_readAsk 0 = .ok (.aload_n 0, 1) := by decide +kernel
theorem dX6_readAsk_1 : decode cX6_readAsk 1 = .ok (.aload_n 0, 1) := by decide +kernel
theorem dX6_readAsk_2 : decode cX6_readAsk 2 = .ok (.getfield 19, 3) := by decide +kernel
theorem dX6_readAsk_5 : decode cX6_readAsk 5 = .ok (.getfield 156, 3) := by decide +kernel
theorem dX6_readAsk_8 : decode cX6_readAsk 8 = .ok (.invokevirtual 131, 3) := by decide +kernel
theorem dX6_readAsk_11 : decode cX6_readAsk 11 = .ok (.aload_n 0, 1) := by decide +kernel
theorem dX6_readAsk_12 : decode cX6_readAsk 12 = .ok (.aload_n 0, 1) := by decide +kernel
theorem dX6_readAsk_13 : decode cX6_readAsk 13 = .ok (.getfield 19, 3) := by decide +kernel
theorem dX6_readAsk_16 : decode cX6_readAsk 16 = .ok (.getfield 156, 3) := by decide +kernel
theorem dX6_readAsk_19 : decode cX6_readAsk 19 = .ok (.iconst 0, 1) := by decide +kernel
theorem dX6_readAsk_20 : decode cX6_readAsk 20 = .ok (.iconst 0, 1) := by decide +kernel
theorem dX6_readAsk_21 : decode cX6_readAsk 21 = .ok (.iconst 1, 1) := by decide +kernel
theorem dX6_readAsk_22 : decode cX6_readAsk 22 = .ok (.invokevirtual 134, 3) := by decide +kernel
theorem dX6_readAsk_25 : decode cX6_readAsk 25 = .ok (.aload_n 0, 1) := by decide +kernel
theorem dX6_readAsk_26 : decode cX6_readAsk 26 = .ok (.ldc 161, 2) := by decide +kernel
theorem dX6_readAsk_28 : decode cX6_readAsk 28 = .ok (.invokevirtual 99, 3) := by decide +kernel
theorem dX6_readAsk_31 : decode cX6_readAsk 31 = .ok (.aload_n 0, 1) := by decide +kernel
theorem dX6_readAsk_32 : decode cX6_readAsk 32 = .ok (.aload_n 0, 1) := by decide +kernel
theorem dX6_readAsk_33 : decode cX6_readAsk 33 = .ok (.getfield 19, 3) := by decide +kernel
theorem dX6_readAsk_36 : decode cX6_readAsk 36 = .ok (.getfield 156, 3) := by decide +kernel
theorem dX6_readAsk_39 : decode cX6_readAsk 39 = .ok (.iconst 1, 1) := by decide +kernel
theorem dX6_readAsk_40 : decode cX6_readAsk 40 = .ok (.iconst 0, 1) := by decide +kernel
theorem dX6_readAsk_41 : decode cX6_readAsk 41 = .ok (.bipush 59, 2) := by decide +kernel
theorem dX6_readAsk_43 : decode cX6_readAsk 43 = .ok (.invokevirtual 134, 3) := by decide +kernel
theorem dX6_readAsk_46 : decode cX6_readAsk 46 = .ok (.aload_n 0, 1) := by decide +kernel
theorem dX6_readAsk_47 : decode cX6_readAsk 47 = .ok (.ldc 163, 2) := by decide +kernel
theorem dX6_readAsk_49 : decode cX6_readAsk 49 = .ok (.invokevirtual 99, 3) := by decide +kernel
theorem dX6_readAsk_52 : decode cX6_readAsk 52 = .ok (.aload_n 0, 1) := by decide +kernel
theorem dX6_readAsk_53 : decode cX6_readAsk 53 = .ok (.aload_n 0, 1) := by decide +kernel
theorem dX6_readAsk_54 : decode cX6_readAsk 54 = .ok (.getfield 19, 3) := by decide +kernel
theorem dX6_readAsk_57 : decode cX6_readAsk 57 = .ok (.getfield 156, 3) := by decide +kernel
theorem dX6_readAsk_60 : decode cX6_readAsk 60 = .ok (.iconst 2, 1) := by decide +kernel
theorem dX6_readAsk_61 : decode cX6_readAsk 61 = .ok (.iconst 1, 1) := by decide +kernel
theorem dX6_readAsk_62 : decode cX6_readAsk 62 = .ok (.bipush 20, 2) := by decide +kernel
theorem dX6_readAsk_64 : decode cX6_readAsk 64 = .ok (.invokevirtual 134, 3) := by decide +kernel
theorem dX6_readAsk_67 : decode cX6_readAsk 67 = .ok (.aload_n 0, 1) := by decide +kernel
theorem dX6_readAsk_68 : decode cX6_readAsk 68 = .ok (.ldc 165, 2) := by decide +kernel
theorem dX6_readAsk_70 : decode cX6_readAsk 70 = .ok (.invokevirtual 99, 3) := by decide +kernel
theorem dX6_readAsk_73 : decode cX6_readAsk 73 = .ok (.aload_n 0, 1) := by decide +kernel
theorem dX6_readAsk_74 : decode cX6_readAsk 74 = .ok (.aload_n 0, 1) := by decide +kernel
theorem dX6_readAsk_75 : decode cX6_readAsk 75 = .ok (.getfield 19, 3) := by decide +kernel
theorem dX6_readAsk_78 : decode cX6_readAsk 78 = .ok (.getfield 156, 3) := by decide +kernel
theorem dX6_readAsk_81 : decode cX6_readAsk 81 = .ok (.iconst 3, 1) := by decide +kernel
theorem dX6_readAsk_82 : decode cX6_readAsk 82 = .ok (.iconst 1, 1) := by decide +kernel
theorem dX6_readAsk_83 : decode cX6_readAsk 83 = .ok (.bipush 99, 2) := by decide +kernel
theorem dX6_readAsk_85 : decode cX6_readAsk 85 = .ok (.invokevirtual 134, 3) := by decide +kernel
theorem dX6_readAsk_88 : decode cX6_readAsk 88 = .ok (.return_, 1) := by decide +kernel
theorem dX6_readSpy_0 : decode cX6_readSpy 0 = .ok (.aload_n 0, 1) := by decide +kernel
theorem dX6_readSpy_1 : decode cX6_readSpy 1 = .ok (.aload_n 0, 1) := by decide +kernel
theorem dX6_readSpy_2 : decode cX6_readSpy 2 = .ok (.getfield 19, 3) := by decide +kernel
theorem dX6_readSpy_5 : decode cX6_readSpy 5 = .ok (.getfield 167, 3) := by decide +kernel
theorem dX6_readSpy_8 : decode cX6_readSpy 8 = .ok (.invokevirtual 131, 3) := by decide +kernel
theorem dX6_readSpy_11 : decode cX6_readSpy 11 = .ok (.aload_n 0, 1) := by decide +kernel
theorem dX6_readSpy_12 : decode cX6_readSpy 12 = .ok (.ldc 170, 2) := by decide +kernel
theorem dX6_readSpy_14 : decode cX6_readSpy 14 = .ok (.invokevirtual 99, 3) := by decide +kernel
theorem dX6_readSpy_17 : decode cX6_readSpy 17 = .ok (.iconst 1, 1) := by decide +kernel
theorem dX6_readSpy_18 : decode cX6_readSpy 18 = .ok (.aload_n 0, 1) := by decide +kernel
theorem dX6_readSpy_19 : decode cX6_readSpy 19 = .ok (.iconst 0, 1) := by decide +kernel
theorem dX6_readSpy_20 : decode cX6_readSpy 20 = .ok (.aload_n 0, 1) := by decide +kernel
theorem dX6_readSpy_21 : decode cX6_readSpy 21 = .ok (.getfield 19, 3) := by decide +kernel
theorem dX6_readSpy_24 : decode cX6_readSpy 24 = .ok (.getfield 128, 3) := by decide +kernel
theorem dX6_readSpy_27 : decode cX6_readSpy 27 = .ok (.getfield 149, 3) := by decide +kernel
theorem dX6_readSpy_30 : decode cX6_readSpy 30 = .ok (.iconst 1, 1) := by decide +kernel
theorem dX6_readSpy_31 : decode cX6_readSpy 31 = .ok (.isub, 1) := by decide +kernel
theorem dX6_readSpy_32 : decode cX6_readSpy 32 = .ok (.invokevirtual 105, 3) := by decide +kernel
theorem dX6_readSpy_35 : decode cX6_readSpy 35 = .ok (.ishl, 1) := by decide +kernel
theorem dX6_readSpy_36 : decode cX6_readSpy 36 = .ok (.istore_n 1, 1) := by decide +kernel
theorem dX6_readSpy_37 : decode cX6_readSpy 37 = .ok (.iconst 0, 1) := by decide +kernel
theorem dX6_readSpy_38 : decode cX6_readSpy 38 = .ok (.istore_n 2, 1) := by decide +kernel
theorem dX6_readSpy_39 : decode cX6_readSpy 39 = .ok (.iload_n 2, 1) := by decide +kernel
theorem dX6_readSpy_40 : decode cX6_readSpy 40 = .ok (.sipush 1200, 3) := by decide +kernel
theorem dX6_readSpy_43 : decode cX6_readSpy 43 = .ok (.if_icmp .ge 46, 3) := by decide +kernel
theorem dX6_readSpy_46 : decode cX6_readSpy 46 = .ok (.aload_n 0, 1) := by decide +kernel
theorem dX6_readSpy_47 : decode cX6_readSpy 47 = .ok (.getfield 40, 3) := by decide +kernel
theorem dX6_readSpy_50 : decode cX6_readSpy 50 = .ok (.iconst 3, 1) := by decide +kernel
theorem dX6_readSpy_51 : decode cX6_readSpy 51 = .ok (.if_icmp .ne 38, 3) := by decide +kernel
theorem dX6_readSpy_54 : decode cX6_readSpy 54 = .ok (.aload_n 0, 1) := by decide +kernel
theorem dX6_readSpy_55 : decode cX6_readSpy 55 = .ok (.getfield 31, 3) := by decide +kernel
theorem dX6_readSpy_58 : decode cX6_readSpy 58 = .ok (.ifCond .ne 31, 3) := by decide +kernel
theorem dX6_readSpy_61 : decode cX6_readSpy 61 = .ok (.iload_n 1, 1) := by decide +kernel
theorem dX6_readSpy_62 : decode cX6_readSpy 62 = .ok (.iconst 1, 1) := by decide +kernel
theorem dX6_readSpy_63 : decode cX6_readSpy 63 = .ok (.aload_n 0, 1) := by decide +kernel
theorem dX6_readSpy_64 : decode cX6_readSpy 64 = .ok (.iconst 0, 1) := by decide +kernel
theorem dX6_readSpy_65 : decode cX6_readSpy 65 = .ok (.aload_n 0, 1) := by decide +kernel
theorem dX6_readSpy_66 : decode cX6_readSpy 66 = .ok (.getfield 19, 3) := by decide +kernel
theorem dX6_readSpy_69 : decode cX6_readSpy 69 = .ok (.getfield 128, 3) := by decide +kernel
theorem dX6_readSpy_72 : decode cX6_readSpy 72 = .ok (.getfield 149, 3) := by decide +kernel
theorem dX6_readSpy_75 : decode cX6_readSpy 75 = .ok (.iconst 1, 1) := by decide +kernel
theorem dX6_readSpy_76 : decode cX6_readSpy 76 = .ok (.isub, 1) := by decide +kernel
theorem dX6_readSpy_77 : decode cX6_readSpy 77 = .ok (.invokevirtual 105, 3) := by decide +kernel
theorem dX6_readSpy_80 : decode cX6_readSpy 80 = .ok (.ishl, 1) := by decide +kernel
theorem dX6_readSpy_81 : decode cX6_readSpy 81 = .ok (.ior, 1) := by decide +kernel
theorem dX6_readSpy_82 : decode cX6_readSpy 82 = .ok (.istore_n 1, 1) := by decide +kernel
theorem dX6_readSpy_83 : decode cX6_readSpy 83 = .ok (.iinc 2 1, 3) := by decide +kernel
theorem dX6_readSpy_86 : decode cX6_readSpy 86 = .ok (.goto (-47), 3) := by decide +kernel
theorem dX6_readSpy_89 : decode cX6_readSpy 89 = .ok (.aload_n 0, 1) := by decide +kernel
theorem dX6_readSpy_90 : decode cX6_readSpy 90 = .ok (.getfield 19, 3) := by decide +kernel
theorem dX6_readSpy_93 : decode cX6_readSpy 93 = .ok (.getfield 167, 3) := by decide +kernel
theorem dX6_readSpy_96 : decode cX6_readSpy 96 = .ok (.aload_n 0, 1) := by decide +kernel
theorem dX6_readSpy_97 : decode cX6_readSpy 97 = .ok (.getfield 19, 3) := by decide +kernel
theorem dX6_readSpy_100 : decode cX6_readSpy 100 = .ok (.getfield 167, 3) := by decide +kernel
theorem dX6_readSpy_103 : decode cX6_readSpy 103 = .ok (.getfield 149, 3) := by decide +kernel
theorem dX6_readSpy_106 : decode cX6_readSpy 106 = .ok (.iconst 1, 1) := by decide +kernel
theorem dX6_readSpy_107 : decode cX6_readSpy 107 = .ok (.isub, 1) := by decide +kernel
theorem dX6_readSpy_108 : decode cX6_readSpy 108 = .ok (.iconst 0, 1) := by decide +kernel
theorem dX6_readSpy_109 : decode cX6_readSpy 109 = .ok (.iload_n 1, 1) := by decide +kernel
theorem dX6_readSpy_110 : decode cX6_readSpy 110 = .ok (.invokevirtual 172, 3) := by decide +kernel
theorem dX6_readSpy_113 : decode cX6_readSpy 113 = .ok (.return_, 1) := by decide +kernel
theorem dX6_begin_0 : decode cX6_begin 0 = .ok (.aload_n 1, 1) := by decide +kernel
theorem dX6_begin_1 : decode cX6_begin 1 = .ok (.invokevirtual 176, 3) := by decide +kernel
theorem dX6_begin_4 : decode cX6_begin 4 = .ok (.ifCond .eq 9, 3) := by decide +kernel
theorem dX6_begin_7 : decode cX6_begin 7 = .ok (.aload_n 0, 1) := by decide +kernel
theorem dX6_begin_8 : decode cX6_begin 8 = .ok (.iconst 3, 1) := by decide +kernel
theorem dX6_begin_9 : decode cX6_begin 9 = .ok (.invokevirtual 94, 3) := by decide +kernel
theorem dX6_begin_12 : decode cX6_begin 12 = .ok (.return_, 1) := by decide +kernel
theorem dX6_begin_13 : decode cX6_begin 13 = .ok (.aload_n 1, 1) := by decide +kernel
theorem dX6_begin_14 : decode cX6_begin 14 = .ok (.invokevirtual 180, 3) := by decide +kernel
theorem dX6_begin_17 : decode cX6_begin 17 = .ok (.aload_n 0, 1) := by decide +kernel
theorem dX6_begin_18 : decode cX6_begin 18 = .ok (.invokevirtual 37, 3) := by decide +kernel
theorem dX6_begin_21 : decode cX6_begin 21 = .ok (.return_, 1) := by decide +kernel
theorem dX6_cell_0 : decode cX6_cell 0 = .ok (.aload_n 1, 1) := by decide +kernel
theorem dX6_cell_1 : decode cX6_cell 1 = .ok (.aload_n 1, 1) := by decide +kernel
theorem dX6_cell_2 : decode cX6_cell 2 = .ok (.getfield 149, 3) := by decide +kernel
theorem dX6_cell_5 : decode cX6_cell 5 = .ok (.iconst 1, 1) := by decide +kernel
theorem dX6_cell_6 : decode cX6_cell 6 = .ok (.isub, 1) := by decide +kernel
theorem dX6_cell_7 : decode cX6_cell 7 = .ok (.iload_n 2, 1) := by decide +kernel
theorem dX6_cell_8 : decode cX6_cell 8 = .ok (.aload_n 0, 1) := by decide +kernel
theorem dX6_cell_9 : decode cX6_cell 9 = .ok (.iload_n 3, 1) := by decide +kernel
theorem dX6_cell_10 : decode cX6_cell 10 = .ok (.iload 4, 2) := by decide +kernel
theorem dX6_cell_12 : decode cX6_cell 12 = .ok (.invokevirtual 105, 3) := by decide +kernel
theorem dX6_cell_15 : decode cX6_cell 15 = .ok (.invokevirtual 172, 3) := by decide +kernel
theorem dX6_cell_18 : decode cX6_cell 18 = .ok (.return_, 1) := by decide +kernel
theorem dX6_word_0 : decode cX6_word 0 = .ok (.aload_n 0, 1) := by decide +kernel
theorem dX6_word_1 : decode cX6_word 1 = .ok (.aload_n 1, 1) := by decide +kernel
theorem dX6_word_2 : decode cX6_word 2 = .ok (.invokevirtual 57, 3) := by decide +kernel
theorem dX6_word_5 : decode cX6_word 5 = .ok (.ifCond .ne 9, 3) := by decide +kernel
theorem dX6_word_8 : decode cX6_word 8 = .ok (.aload_n 0, 1) := by decide +kernel
theorem dX6_word_9 : decode cX6_word 9 = .ok (.iconst 1, 1) := by decide +kernel
theorem dX6_word_10 : decode cX6_word 10 = .ok (.invokevirtual 94, 3) := by decide +kernel
theorem dX6_word_13 : decode cX6_word 13 = .ok (.return_, 1) := by decide +kernel
theorem dX6_word_14 : decode cX6_word 14 = .ok (.aload_n 0, 1) := by decide +kernel
theorem dX6_word_15 : decode cX6_word 15 = .ok (.invokevirtual 37, 3) := by decide +kernel
theorem dX6_word_18 : decode cX6_word 18 = .ok (.return_, 1) := by decide +kernel
theorem dX6_number_0 : decode cX6_number 0 = .ok (.aload_n 0, 1) := by decide +kernel
theorem dX6_number_1 : decode cX6_number 1 = .ok (.getfield 40, 3) := by decide +kernel
theorem dX6_number_4 : decode cX6_number 4 = .ok (.iconst 3, 1) := by decide +kernel
theorem dX6_number_5 : decode cX6_number 5 = .ok (.if_icmp .eq 10, 3) := by decide +kernel
theorem dX6_number_8 : decode cX6_number 8 = .ok (.aload_n 0, 1) := by decide +kernel
theorem dX6_number_9 : decode cX6_number 9 = .ok (.iconst 1, 1) := by decide +kernel
theorem dX6_number_10 : decode cX6_number 10 = .ok (.invokevirtual 94, 3) := by decide +kernel
theorem dX6_number_13 : decode cX6_number 13 = .ok (.iconst 0, 1) := by decide +kernel
theorem dX6_number_14 : decode cX6_number 14 = .ok (.ireturn, 1) := by decide +kernel
theorem dX6_number_15 : decode cX6_number 15 = .ok (.aload_n 0, 1) := by decide +kernel
theorem dX6_number_16 : decode cX6_number 16 = .ok (.getfield 183, 3) := by decide +kernel
theorem dX6_number_19 : decode cX6_number 19 = .ok (.istore_n 3, 1) := by decide +kernel
theorem dX6_number_20 : decode cX6_number 20 = .ok (.iload_n 3, 1) := by decide +kernel
theorem dX6_number_21 : decode cX6_number 21 = .ok (.iload_n 1, 1) := by decide +kernel
theorem dX6_number_22 : decode cX6_number 22 = .ok (.if_icmp .lt 8, 3) := by decide +kernel
theorem dX6_number_25 : decode cX6_number 25 = .ok (.iload_n 3, 1) := by decide +kernel
theorem dX6_number_26 : decode cX6_number 26 = .ok (.iload_n 2, 1) := by decide +kernel
theorem dX6_number_27 : decode cX6_number 27 = .ok (.if_icmp .le 10, 3) := by decide +kernel
theorem dX6_number_30 : decode cX6_number 30 = .ok (.aload_n 0, 1) := by decide +kernel
theorem dX6_number_31 : decode cX6_number 31 = .ok (.iconst 2, 1) := by decide +kernel
theorem dX6_number_32 : decode cX6_number 32 = .ok (.invokevirtual 94, 3) := by decide +kernel
theorem dX6_number_35 : decode cX6_number 35 = .ok (.iconst 0, 1) := by decide +kernel
theorem dX6_number_36 : decode cX6_number 36 = .ok (.ireturn, 1) := by decide +kernel
theorem dX6_number_37 : decode cX6_number 37 = .ok (.aload_n 0, 1) := by decide +kernel
theorem dX6_number_38 : decode cX6_number 38 = .ok (.invokevirtual 37, 3) := by decide +kernel
theorem dX6_number_41 : decode cX6_number 41 = .ok (.iload_n 3, 1) := by decide +kernel
theorem dX6_number_42 : decode cX6_number 42 = .ok (.ireturn, 1) := by decide +kernel
theorem dX6_sign_0 : decode cX6_sign 0 = .ok (.aload_n 0, 1) := by decide +kernel
theorem dX6_sign_1 : decode cX6_sign 1 = .ok (.getfield 40, 3) := by decide +kernel
theorem dX6_sign_4 : decode cX6_sign 4 = .ok (.iconst 4, 1) := by decide +kernel
theorem dX6_sign_5 : decode cX6_sign 5 = .ok (.if_icmp .eq 9, 3) := by decide +kernel
theorem dX6_sign_8 : decode cX6_sign 8 = .ok (.aload_n 0, 1) := by decide +kernel
theorem dX6_sign_9 : decode cX6_sign 9 = .ok (.iconst 1, 1) := by decide +kernel
theorem dX6_sign_10 : decode cX6_sign 10 = .ok (.invokevirtual 94, 3) := by decide +kernel
theorem dX6_sign_13 : decode cX6_sign 13 = .ok (.return_, 1) := by decide +kernel
theorem dX6_sign_14 : decode cX6_sign 14 = .ok (.aload_n 0, 1) := by decide +kernel
theorem dX6_sign_15 : decode cX6_sign 15 = .ok (.invokevirtual 37, 3) := by decide +kernel
theorem dX6_sign_18 : decode cX6_sign 18 = .ok (.return_, 1) := by decide +kernel
theorem dX6_blame_0 : decode cX6_blame 0 = .ok (.aload_n 0, 1) := by decide +kernel
theorem dX6_blame_1 : decode cX6_blame 1 = .ok (.getfield 31, 3) := by decide +kernel
theorem dX6_blame_4 : decode cX6_blame 4 = .ok (.ifCond .ne 16, 3) := by decide +kernel
theorem dX6_blame_7 : decode cX6_blame 7 = .ok (.aload_n 0, 1) := by decide +kernel
theorem dX6_blame_8 : decode cX6_blame 8 = .ok (.iload_n 1, 1) := by decide +kernel
theorem dX6_blame_9 : decode cX6_blame 9 = .ok (.putfield 31, 3) := by decide +kernel
theorem dX6_blame_12 : decode cX6_blame 12 = .ok (.aload_n 0, 1) := by decide +kernel
theorem dX6_blame_13 : decode cX6_blame 13 = .ok (.aload_n 0, 1) := by decide +kernel
theorem dX6_blame_14 : decode cX6_blame 14 = .ok (.getfield 186, 3) := by decide +kernel
theorem dX6_blame_17 : decode cX6_blame 17 = .ok (.putfield 15, 3) := by decide +kernel
theorem dX6_blame_20 : decode cX6_blame 20 = .ok (.return_, 1) := by decide +kernel
theorem dX6_sees_0 : decode cX6_sees 0 = .ok (.aload_n 0, 1) := by decide +kernel
theorem dX6_sees_1 : decode cX6_sees 1 = .ok (.getfield 40, 3) := by decide +kernel
theorem dX6_sees_4 : decode cX6_sees 4 = .ok (.iconst 2, 1) := by decide +kernel
theorem dX6_sees_5 : decode cX6_sees 5 = .ok (.if_icmp .ne 19, 3) := by decide +kernel
theorem dX6_sees_8 : decode cX6_sees 8 = .ok (.aload_n 0, 1) := by decide +kernel
theorem dX6_sees_9 : decode cX6_sees 9 = .ok (.getfield 34, 3) := by decide +kernel
theorem dX6_sees_12 : decode cX6_sees 12 = .ok (.aload_n 0, 1) := by decide +kernel
theorem dX6_sees_13 : decode cX6_sees 13 = .ok (.getfield 186, 3) := by decide +kernel
theorem dX6_sees_16 : decode cX6_sees 16 = .ok (.isub, 1) := by decide +kernel
theorem dX6_sees_17 : decode cX6_sees 17 = .ok (.aload_n 1, 1) := by decide +kernel
theorem dX6_sees_18 : decode cX6_sees 18 = .ok (.invokevirtual 189, 3) := by decide +kernel
theorem dX6_sees_21 : decode cX6_sees 21 = .ok (.if_icmp .eq 5, 3) := by decide +kernel
theorem dX6_sees_24 : decode cX6_sees 24 = .ok (.iconst 0, 1) := by decide +kernel
theorem dX6_sees_25 : decode cX6_sees 25 = .ok (.ireturn, 1) := by decide +kernel
theorem dX6_sees_26 : decode cX6_sees 26 = .ok (.iconst 0, 1) := by decide +kernel
theorem dX6_sees_27 : decode cX6_sees 27 = .ok (.istore_n 2, 1) := by decide +kernel
theorem dX6_sees_28 : decode cX6_sees 28 = .ok (.iload_n 2, 1) := by decide +kernel
theorem dX6_sees_29 : decode cX6_sees 29 = .ok (.aload_n 1, 1) := by decide +kernel
theorem dX6_sees_30 : decode cX6_sees 30 = .ok (.invokevirtual 189, 3) := by decide +kernel
theorem dX6_sees_33 : decode cX6_sees 33 = .ok (.if_icmp .ge 29, 3) := by decide +kernel
theorem dX6_sees_36 : decode cX6_sees 36 = .ok (.aload_n 0, 1) := by decide +kernel
theorem dX6_sees_37 : decode cX6_sees 37 = .ok (.aload_n 0, 1) := by decide +kernel
theorem dX6_sees_38 : decode cX6_sees 38 = .ok (.getfield 186, 3) := by decide +kernel
theorem dX6_sees_41 : decode cX6_sees 41 = .ok (.iload_n 2, 1) := by decide +kernel
theorem dX6_sees_42 : decode cX6_sees 42 = .ok (.iadd, 1) := by decide +kernel
theorem dX6_sees_43 : decode cX6_sees 43 = .ok (.invokevirtual 194, 3) := by decide +kernel
theorem dX6_sees_46 : decode cX6_sees 46 = .ok (.aload_n 1, 1) := by decide +kernel
theorem dX6_sees_47 : decode cX6_sees 47 = .ok (.iload_n 2, 1) := by decide +kernel
theorem dX6_sees_48 : decode cX6_sees 48 = .ok (.invokevirtual 198, 3) := by decide +kernel
theorem dX6_sees_51 : decode cX6_sees 51 = .ok (.if_icmp .eq 5, 3) := by decide +kernel
theorem dX6_sees_54 : decode cX6_sees 54 = .ok (.iconst 0, 1) := by decide +kernel
theorem dX6_sees_55 : decode cX6_sees 55 = .ok (.ireturn, 1) := by decide +kernel
theorem dX6_sees_56 : decode cX6_sees 56 = .ok (.iinc 2 1, 3) := by decide +kernel
theorem dX6_sees_59 : decode cX6_sees 59 = .ok (.goto (-31), 3) := by decide +kernel
theorem dX6_sees_62 : decode cX6_sees 62 = .ok (.iconst 1, 1) := by decide +kernel
theorem dX6_sees_63 : decode cX6_sees 63 = .ok (.ireturn, 1) := by decide +kernel
theorem dX6_advance_0 : decode cX6_advance 0 = .ok (.aload_n 0, 1) := by decide +kernel
theorem dX6_advance_1 : decode cX6_advance 1 = .ok (.aload_n 0, 1) := by decide +kernel
theorem dX6_advance_2 : decode cX6_advance 2 = .ok (.getfield 34, 3) := by decide +kernel
theorem dX6_advance_5 : decode cX6_advance 5 = .ok (.putfield 186, 3) := by decide +kernel
theorem dX6_advance_8 : decode cX6_advance 8 = .ok (.aload_n 0, 1) := by decide +kernel
theorem dX6_advance_9 : decode cX6_advance 9 = .ok (.getfield 186, 3) := by decide +kernel
theorem dX6_advance_12 : decode cX6_advance 12 = .ok (.aload_n 0, 1) := by decide +kernel
theorem dX6_advance_13 : decode cX6_advance 13 = .ok (.getfield 23, 3) := by decide +kernel
theorem dX6_advance_16 : decode cX6_advance 16 = .ok (.if_icmp .ge 28, 3) := by decide +kernel
theorem dX6_advance_19 : decode cX6_advance 19 = .ok (.aload_n 0, 1) := by decide +kernel
theorem dX6_advance_20 : decode cX6_advance 20 = .ok (.aload_n 0, 1) := by decide +kernel
theorem dX6_advance_21 : decode cX6_advance 21 = .ok (.getfield 186, 3) := by decide +kernel
theorem dX6_advance_24 : decode cX6_advance 24 = .ok (.invokevirtual 202, 3) := by decide +kernel
theorem dX6_advance_27 : decode cX6_advance 27 = .ok (.iconst 1, 1) := by decide +kernel
theorem dX6_advance_28 : decode cX6_advance 28 = .ok (.if_icmp .ne 16, 3) := by decide +kernel
theorem dX6_advance_31 : decode cX6_advance 31 = .ok (.aload_n 0, 1) := by decide +kernel
theorem dX6_advance_32 : decode cX6_advance 32 = .ok (.dup, 1) := by decide +kernel
theorem dX6_advance_33 : decode cX6_advance 33 = .ok (.getfield 186, 3) := by decide +kernel
theorem dX6_advance_36 : decode cX6_advance 36 = .ok (.iconst 1, 1) := by decide +kernel
theorem dX6_advance_37 : decode cX6_advance 37 = .ok (.iadd, 1) := by decide +kernel
theorem dX6_advance_38 : decode cX6_advance 38 = .ok (.putfield 186, 3) := by decide +kernel
theorem dX6_advance_41 : decode cX6_advance 41 = .ok (.goto (-33), 3) := by decide +kernel
theorem dX6_advance_44 : decode cX6_advance 44 = .ok (.aload_n 0, 1) := by decide +kernel
theorem dX6_advance_45 : decode cX6_advance 45 = .ok (.aload_n 0, 1) := by decide +kernel
theorem dX6_advance_46 : decode cX6_advance 46 = .ok (.aload_n 0, 1) := by decide +kernel
theorem dX6_advance_47 : decode cX6_advance 47 = .ok (.getfield 186, 3) := by decide +kernel
theorem dX6_advance_50 : decode cX6_advance 50 = .ok (.invokevirtual 202, 3) := by decide +kernel
theorem dX6_advance_53 : decode cX6_advance 53 = .ok (.putfield 40, 3) := by decide +kernel
theorem dX6_advance_56 : decode cX6_advance 56 = .ok (.aload_n 0, 1) := by decide +kernel
theorem dX6_advance_57 : decode cX6_advance 57 = .ok (.iconst 0, 1) := by decide +kernel
theorem dX6_advance_58 : decode cX6_advance 58 = .ok (.putfield 183, 3) := by decide +kernel
theorem dX6_advance_61 : decode cX6_advance 61 = .ok (.aload_n 0, 1) := by decide +kernel
theorem dX6_advance_62 : decode cX6_advance 62 = .ok (.aload_n 0, 1) := by decide +kernel
theorem dX6_advance_63 : decode cX6_advance 63 = .ok (.getfield 186, 3) := by decide +kernel
theorem dX6_advance_66 : decode cX6_advance 66 = .ok (.iconst 1, 1) := by decide +kernel
theorem dX6_advance_67 : decode cX6_advance 67 = .ok (.iadd, 1) := by decide +kernel
theorem dX6_advance_68 : decode cX6_advance 68 = .ok (.aload_n 0, 1) := by decide +kernel
theorem dX6_advance_69 : decode cX6_advance 69 = .ok (.getfield 23, 3) := by decide +kernel
theorem dX6_advance_72 : decode cX6_advance 72 = .ok (.invokestatic 205, 3) := by decide +kernel
theorem dX6_advance_75 : decode cX6_advance 75 = .ok (.putfield 34, 3) := by decide +kernel
theorem dX6_advance_78 : decode cX6_advance 78 = .ok (.aload_n 0, 1) := by decide +kernel
theorem dX6_advance_79 : decode cX6_advance 79 = .ok (.getfield 40, 3) := by decide +kernel
theorem dX6_advance_82 : decode cX6_advance 82 = .ok (.iconst 3, 1) := by decide +kernel
theorem dX6_advance_83 : decode cX6_advance 83 = .ok (.if_icmp .ne 18, 3) := by decide +kernel
theorem dX6_advance_86 : decode cX6_advance 86 = .ok (.aload_n 0, 1) := by decide +kernel
theorem dX6_advance_87 : decode cX6_advance 87 = .ok (.aload_n 0, 1) := by decide +kernel
theorem dX6_advance_88 : decode cX6_advance 88 = .ok (.aload_n 0, 1) := by decide +kernel
theorem dX6_advance_89 : decode cX6_advance 89 = .ok (.getfield 186, 3) := by decide +kernel
theorem dX6_advance_92 : decode cX6_advance 92 = .ok (.invokevirtual 194, 3) := by decide +kernel
theorem dX6_advance_95 : decode cX6_advance 95 = .ok (.bipush 48, 2) := by decide +kernel
theorem dX6_advance_97 : decode cX6_advance 97 = .ok (.isub, 1) := by decide +kernel
theorem dX6_advance_98 : decode cX6_advance 98 = .ok (.putfield 183, 3) := by decide +kernel
theorem dX6_advance_101 : decode cX6_advance 101 = .ok (.aload_n 0, 1) := by decide +kernel
theorem dX6_advance_102 : decode cX6_advance 102 = .ok (.getfield 40, 3) := by decide +kernel
theorem dX6_advance_105 : decode cX6_advance 105 = .ok (.iconst 2, 1) := by decide +kernel
theorem dX6_advance_106 : decode cX6_advance 106 = .ok (.if_icmp .eq 12, 3) := by decide +kernel
theorem dX6_advance_109 : decode cX6_advance 109 = .ok (.aload_n 0, 1) := by decide +kernel
theorem dX6_advance_110 : decode cX6_advance 110 = .ok (.getfield 40, 3) := by decide +kernel
theorem dX6_advance_113 : decode cX6_advance 113 = .ok (.iconst 3, 1) := by decide +kernel
theorem dX6_advance_114 : decode cX6_advance 114 = .ok (.if_icmp .eq 4, 3) := by decide +kernel
theorem dX6_advance_117 : decode cX6_advance 117 = .ok (.return_, 1) := by decide +kernel
theorem dX6_advance_118 : decode cX6_advance 118 = .ok (.aload_n 0, 1) := by decide +kernel
theorem dX6_advance_119 : decode cX6_advance 119 = .ok (.getfield 34, 3) := by decide +kernel
theorem dX6_advance_122 : decode cX6_advance 122 = .ok (.aload_n 0, 1) := by decide +kernel
theorem dX6_advance_123 : decode cX6_advance 123 = .ok (.getfield 23, 3) := by decide +kernel
theorem dX6_advance_126 : decode cX6_advance 126 = .ok (.if_icmp .ge 67, 3) := by decide +kernel
theorem dX6_advance_129 : decode cX6_advance 129 = .ok (.aload_n 0, 1) := by decide +kernel
theorem dX6_advance_130 : decode cX6_advance 130 = .ok (.aload_n 0, 1) := by decide +kernel
theorem dX6_advance_131 : decode cX6_advance 131 = .ok (.getfield 34, 3) := by decide +kernel
theorem dX6_advance_134 : decode cX6_advance 134 = .ok (.invokevirtual 202, 3) := by decide +kernel
theorem dX6_advance_137 : decode cX6_advance 137 = .ok (.aload_n 0, 1) := by decide +kernel
theorem dX6_advance_138 : decode cX6_advance 138 = .ok (.getfield 40, 3) := by decide +kernel
theorem dX6_advance_141 : decode cX6_advance 141 = .ok (.if_icmp .ne 52, 3) := by decide +kernel
theorem dX6_advance_144 : decode cX6_advance 144 = .ok (.aload_n 0, 1) := by decide +kernel
theorem dX6_advance_145 : decode cX6_advance 145 = .ok (.getfield 40, 3) := by decide +kernel
theorem dX6_advance_148 : decode cX6_advance 148 = .ok (.iconst 3, 1) := by decide +kernel
theorem dX6_advance_149 : decode cX6_advance 149 = .ok (.if_icmp .ne 31, 3) := by decide +kernel
theorem dX6_advance_152 : decode cX6_advance 152 = .ok (.aload_n 0, 1) := by decide +kernel
theorem dX6_advance_153 : decode cX6_advance 153 = .ok (.ldc 210, 2) := by decide +kernel
theorem dX6_advance_155 : decode cX6_advance 155 = .ok (.aload_n 0, 1) := by decide +kernel
theorem dX6_advance_156 : decode cX6_advance 156 = .ok (.getfield 183, 3) := by decide +kernel
theorem dX6_advance_159 : decode cX6_advance 159 = .ok (.bipush 10, 2) := by decide +kernel
theorem dX6_advance_161 : decode cX6_advance 161 = .ok (.imul, 1) := by decide +kernel
theorem dX6_advance_162 : decode cX6_advance 162 = .ok (.aload_n 0, 1) := by decide +kernel
theorem dX6_advance_163 : decode cX6_advance 163 = .ok (.aload_n 0, 1) := by decide +kernel
theorem dX6_advance_164 : decode cX6_advance 164 = .ok (.getfield 34, 3) := by decide +kernel
theorem dX6_advance_167 : decode cX6_advance 167 = .ok (.invokevirtual 194, 3) := by decide +kernel
theorem dX6_advance_170 : decode cX6_advance 170 = .ok (.iadd, 1) := by decide +kernel
theorem dX6_advance_171 : decode cX6_advance 171 = .ok (.bipush 48, 2) := by decide +kernel
theorem dX6_advance_173 : decode cX6_advance 173 = .ok (.isub, 1) := by decide +kernel
theorem dX6_advance_174 : decode cX6_advance 174 = .ok (.invokestatic 205, 3) := by decide +kernel
theorem dX6_advance_177 : decode cX6_advance 177 = .ok (.putfield 183, 3) := by decide +kernel
theorem dX6_advance_180 : decode cX6_advance 180 = .ok (.aload_n 0, 1) := by decide +kernel
theorem dX6_advance_181 : decode cX6_advance 181 = .ok (.dup, 1) := by decide +kernel
theorem dX6_advance_182 : decode cX6_advance 182 = .ok (.getfield 34, 3) := by decide +kernel
theorem dX6_advance_185 : decode cX6_advance 185 = .ok (.iconst 1, 1) := by decide +kernel
theorem dX6_advance_186 : decode cX6_advance 186 = .ok (.iadd, 1) := by decide +kernel
theorem dX6_advance_187 : decode cX6_advance 187 = .ok (.putfield 34, 3) := by decide +kernel
theorem dX6_advance_190 : decode cX6_advance 190 = .ok (.goto (-72), 3) := by decide +kernel
theorem dX6_advance_193 : decode cX6_advance 193 = .ok (.return_, 1) := by decide +kernel
theorem dX6_kindAt_0 : decode cX6_kindAt 0 = .ok (.iload_n 1, 1) := by decide +kernel
theorem dX6_kindAt_1 : decode cX6_kindAt 1 = .ok (.ifCond .lt 20, 3) := by decide +kernel
theorem dX6_kindAt_4 : decode cX6_kindAt 4 = .ok (.iload_n 1, 1) := by decide +kernel
theorem dX6_kindAt_5 : decode cX6_kindAt 5 = .ok (.aload_n 0, 1) := by decide +kernel
theorem dX6_kindAt_6 : decode cX6_kindAt 6 = .ok (.getfield 23, 3) := by decide +kernel
theorem dX6_kindAt_9 : decode cX6_kindAt 9 = .ok (.if_icmp .ge 12, 3) := by decide +kernel
theorem dX6_kindAt_12 : decode cX6_kindAt 12 = .ok (.iload_n 1, 1) := by decide +kernel
theorem dX6_kindAt_13 : decode cX6_kindAt 13 = .ok (.aload_n 0, 1) := by decide +kernel
theorem dX6_kindAt_14 : decode cX6_kindAt 14 = .ok (.getfield 9, 3) := by decide +kernel
theorem dX6_kindAt_17 : decode cX6_kindAt 17 = .ok (.arraylength, 1) := by decide +kernel
theorem dX6_kindAt_18 : decode cX6_kindAt 18 = .ok (.if_icmp .lt 5, 3) := by decide +kernel
theorem dX6_kindAt_21 : decode cX6_kindAt 21 = .ok (.iconst 0, 1) := by decide +kernel
theorem dX6_kindAt_22 : decode cX6_kindAt 22 = .ok (.ireturn, 1) := by decide +kernel
theorem dX6_kindAt_23 : decode cX6_kindAt 23 = .ok (.aload_n 0, 1) := by decide +kernel
theorem dX6_kindAt_24 : decode cX6_kindAt 24 = .ok (.getfield 9, 3) := by decide +kernel
theorem dX6_kindAt_27 : decode cX6_kindAt 27 = .ok (.iload_n 1, 1) := by decide +kernel
theorem dX6_kindAt_28 : decode cX6_kindAt 28 = .ok (.baload, 1) := by decide +kernel
theorem dX6_kindAt_29 : decode cX6_kindAt 29 = .ok (.istore_n 2, 1) := by decide +kernel
theorem dX6_kindAt_30 : decode cX6_kindAt 30 = .ok (.iload_n 2, 1) := by decide +kernel
theorem dX6_kindAt_31 : decode cX6_kindAt 31 = .ok (.bipush 32, 2) := by decide +kernel
theorem dX6_kindAt_33 : decode cX6_kindAt 33 = .ok (.if_icmp .eq 9, 3) := by decide +kernel
theorem dX6_kindAt_36 : decode cX6_kindAt 36 = .ok (.iload_n 2, 1) := by decide +kernel
theorem dX6_kindAt_37 : decode cX6_kindAt 37 = .ok (.bipush 10, 2) := by decide +kernel
theorem dX6_kindAt_39 : decode cX6_kindAt 39 = .ok (.if_icmp .ne 5, 3) := by decide +kernel
theorem dX6_kindAt_42 : decode cX6_kindAt 42 = .ok (.iconst 1, 1) := by decide +kernel
theorem dX6_kindAt_43 : decode cX6_kindAt 43 = .ok (.ireturn, 1) := by decide +kernel
theorem dX6_kindAt_44 : decode cX6_kindAt 44 = .ok (.iload_n 2, 1) := by decide +kernel
theorem dX6_kindAt_45 : decode cX6_kindAt 45 = .ok (.bipush 97, 2) := by decide +kernel
theorem dX6_kindAt_47 : decode cX6_kindAt 47 = .ok (.if_icmp .lt 11, 3) := by decide +kernel
theorem dX6_kindAt_50 : decode cX6_kindAt 50 = .ok (.iload_n 2, 1) := by decide +kernel
theorem dX6_kindAt_51 : decode cX6_kindAt 51 = .ok (.bipush 122, 2) := by decide +kernel
theorem dX6_kindAt_53 : decode cX6_kindAt 53 = .ok (.if_icmp .gt 5, 3) := by decide +kernel
theorem dX6_kindAt_56 : decode cX6_kindAt 56 = .ok (.iconst 2, 1) := by decide +kernel
theorem dX6_kindAt_57 : decode cX6_kindAt 57 = .ok (.ireturn, 1) := by decide +kernel
theorem dX6_kindAt_58 : decode cX6_kindAt 58 = .ok (.iload_n 2, 1) := by decide +kernel
theorem dX6_kindAt_59 : decode cX6_kindAt 59 = .ok (.bipush 48, 2) := by decide +kernel
theorem dX6_kindAt_61 : decode cX6_kindAt 61 = .ok (.if_icmp .lt 11, 3) := by decide +kernel
theorem dX6_kindAt_64 : decode cX6_kindAt 64 = .ok (.iload_n 2, 1) := by decide +kernel
theorem dX6_kindAt_65 : decode cX6_kindAt 65 = .ok (.bipush 57, 2) := by decide +kernel
theorem dX6_kindAt_67 : decode cX6_kindAt 67 = .ok (.if_icmp .gt 5, 3) := by decide +kernel
theorem dX6_kindAt_70 : decode cX6_kindAt 70 = .ok (.iconst 3, 1) := by decide +kernel
theorem dX6_kindAt_71 : decode cX6_kindAt 71 = .ok (.ireturn, 1) := by decide +kernel
theorem dX6_kindAt_72 : decode cX6_kindAt 72 = .ok (.iload_n 2, 1) := by decide +kernel
theorem dX6_kindAt_73 : decode cX6_kindAt 73 = .ok (.bipush 59, 2) := by decide +kernel
theorem dX6_kindAt_75 : decode cX6_kindAt 75 = .ok (.if_icmp .ne 7, 3) := by decide +kernel
theorem dX6_kindAt_78 : decode cX6_kindAt 78 = .ok (.iconst 4, 1) := by decide +kernel
theorem dX6_kindAt_79 : decode cX6_kindAt 79 = .ok (.goto 4, 3) := by decide +kernel
theorem dX6_kindAt_82 : decode cX6_kindAt 82 = .ok (.iconst 5, 1) := by decide +kernel
theorem dX6_kindAt_83 : decode cX6_kindAt 83 = .ok (.ireturn, 1) := by decide +kernel
theorem dX6_byteAt_0 : decode cX6_byteAt 0 = .ok (.iload_n 1, 1) := by decide +kernel
theorem dX6_byteAt_1 : decode cX6_byteAt 1 = .ok (.ifCond .lt 21, 3) := by decide +kernel
theorem dX6_byteAt_4 : decode cX6_byteAt 4 = .ok (.iload_n 1, 1) := by decide +kernel
theorem dX6_byteAt_5 : decode cX6_byteAt 5 = .ok (.aload_n 0, 1) := by decide +kernel
theorem dX6_byteAt_6 : decode cX6_byteAt 6 = .ok (.getfield 9, 3) := by decide +kernel
theorem dX6_byteAt_9 : decode cX6_byteAt 9 = .ok (.arraylength, 1) := by decide +kernel
theorem dX6_byteAt_10 : decode cX6_byteAt 10 = .ok (.if_icmp .ge 12, 3) := by decide +kernel
theorem dX6_byteAt_13 : decode cX6_byteAt 13 = .ok (.aload_n 0, 1) := by decide +kernel
theorem dX6_byteAt_14 : decode cX6_byteAt 14 = .ok (.getfield 9, 3) := by decide +kernel
theorem dX6_byteAt_17 : decode cX6_byteAt 17 = .ok (.iload_n 1, 1) := by decide +kernel
theorem dX6_byteAt_18 : decode cX6_byteAt 18 = .ok (.baload, 1) := by decide +kernel
theorem dX6_byteAt_19 : decode cX6_byteAt 19 = .ok (.goto 4, 3) := by decide +kernel
theorem dX6_byteAt_22 : decode cX6_byteAt 22 = .ok (.iconst 0, 1) := by decide +kernel
theorem dX6_byteAt_23 : decode cX6_byteAt 23 = .ok (.ireturn, 1) := by decide +kernel
theorem dX7_init_0 : decode cX7_init 0 = .ok (.aload_n 0, 1) := by decide +kernel
theorem dX7_init_1 : decode cX7_init 1 = .ok (.invokespecial 3, 3) := by decide +kernel
theorem dX7_init_4 : decode cX7_init 4 = .ok (.aload_n 0, 1) := by decide +kernel
theorem dX7_init_5 : decode cX7_init 5 = .ok (.iconst 4, 1) := by decide +kernel
theorem dX7_init_6 : decode cX7_init 6 = .ok (.newarray .boolean, 2) := by decide +kernel
theorem dX7_init_8 : decode cX7_init 8 = .ok (.putfield 11, 3) := by decide +kernel
theorem dX7_init_11 : decode cX7_init 11 = .ok (.aload_n 0, 1) := by decide +kernel
theorem dX7_init_12 : decode cX7_init 12 = .ok (.iconst 4, 1) := by decide +kernel
theorem dX7_init_13 : decode cX7_init 13 = .ok (.newarray .int, 2) := by decide +kernel
theorem dX7_init_15 : decode cX7_init 15 = .ok (.putfield 15, 3) := by decide +kernel
theorem dX7_init_18 : decode cX7_init 18 = .ok (.aload_n 0, 1) := by decide +kernel
theorem dX7_init_19 : decode cX7_init 19 = .ok (.iconst 4, 1) := by decide +kernel
theorem dX7_init_20 : decode cX7_init 20 = .ok (.newarray .int, 2) := by decide +kernel
theorem dX7_init_22 : decode cX7_init 22 = .ok (.putfield 19, 3) := by decide +kernel
theorem dX7_init_25 : decode cX7_init 25 = .ok (.aload_n 0, 1) := by decide +kernel
theorem dX7_init_26 : decode cX7_init 26 = .ok (.sipush 240, 3) := by decide +kernel
theorem dX7_init_29 : decode cX7_init 29 = .ok (.newarray .long, 2) := by decide +kernel
theorem dX7_init_31 : decode cX7_init 31 = .ok (.putfield 22, 3) := by decide +kernel
theorem dX7_init_34 : decode cX7_init 34 = .ok (.return_, 1) := by decide +kernel
theorem dX7_countRows_0 : decode cX7_countRows 0 = .ok (.iconst 0, 1) := by decide +kernel
theorem dX7_countRows_1 : decode cX7_countRows 1 = .ok (.istore_n 1, 1) := by decide +kernel
theorem dX7_countRows_2 : decode cX7_countRows 2 = .ok (.iconst 0, 1) := by decide +kernel
theorem dX7_countRows_3 : decode cX7_countRows 3 = .ok (.istore_n 2, 1) := by decide +kernel
theorem dX7_countRows_4 : decode cX7_countRows 4 = .ok (.iload_n 2, 1) := by decide +kernel
theorem dX7_countRows_5 : decode cX7_countRows 5 = .ok (.iconst 4, 1) := by decide +kernel
theorem dX7_countRows_6 : decode cX7_countRows 6 = .ok (.if_icmp .ge 21, 3) := by decide +kernel
theorem dX7_countRows_9 : decode cX7_countRows 9 = .ok (.aload_n 0, 1) := by decide +kernel
theorem dX7_countRows_10 : decode cX7_countRows 10 = .ok (.getfield 11, 3) := by decide +kernel
theorem dX7_countRows_13 : decode cX7_countRows 13 = .ok (.iload_n 2, 1) := by decide +kernel
theorem dX7_countRows_14 : decode cX7_countRows 14 = .ok (.baload, 1) := by decide +kernel
theorem dX7_countRows_15 : decode cX7_countRows 15 = .ok (.ifCond .eq 6, 3) := by decide +kernel
theorem dX7_countRows_18 : decode cX7_countRows 18 = .ok (.iinc 1 1, 3) := by decide +kernel
theorem dX7_countRows_21 : decode cX7_countRows 21 = .ok (.iinc 2 1, 3) := by decide +kernel
theorem dX7_countRows_24 : decode cX7_countRows 24 = .ok (.goto (-20), 3) := by decide +kernel
theorem dX7_countRows_27 : decode cX7_countRows 27 = .ok (.iload_n 1, 1) := by decide +kernel
theorem dX7_countRows_28 : decode cX7_countRows 28 = .ok (.ireturn, 1) := by decide +kernel
theorem dX7_lay_0 : decode cX7_lay 0 = .ok (.iload_n 1, 1) := by decide +kernel
theorem dX7_lay_1 : decode cX7_lay 1 = .ok (.invokestatic 26, 3) := by decide +kernel
theorem dX7_lay_4 : decode cX7_lay 4 = .ok (.ifCond .eq 18, 3) := by decide +kernel
theorem dX7_lay_7 : decode cX7_lay 7 = .ok (.iload_n 2, 1) := by decide +kernel
theorem dX7_lay_8 : decode cX7_lay 8 = .ok (.ifCond .lt 14, 3) := by decide +kernel
theorem dX7_lay_11 : decode cX7_lay 11 = .ok (.iload_n 2, 1) := by decide +kernel
theorem dX7_lay_12 : decode cX7_lay 12 = .ok (.iconst 4, 1) := by decide +kernel
theorem dX7_lay_13 : decode cX7_lay 13 = .ok (.if_icmp .ge 9, 3) := by decide +kernel
theorem dX7_lay_16 : decode cX7_lay 16 = .ok (.iload_n 3, 1) := by decide +kernel
theorem dX7_lay_17 : decode cX7_lay 17 = .ok (.bipush 60, 2) := by decide +kernel
theorem dX7_lay_19 : decode cX7_lay 19 = .ok (.if_icmp .le 6, 3) := by decide +kernel
theorem dX7_lay_22 : decode cX7_lay 22 = .ok (.bipush (-2), 2) := by decide +kernel
theorem dX7_lay_24 : decode cX7_lay 24 = .ok (.ireturn, 1) := by decide +kernel
theorem dX7_lay_25 : decode cX7_lay 25 = .ok (.iload_n 3, 1) := by decide +kernel
theorem dX7_lay_26 : decode cX7_lay 26 = .ok (.ifCond .ge 6, 3) := by decide +kernel
theorem dX7_lay_29 : decode cX7_lay 29 = .ok (.bipush (-3), 2) := by decide +kernel
theorem dX7_lay_31 : decode cX7_lay 31 = .ok (.ireturn, 1) := by decide +kernel
theorem dX7_lay_32 : decode cX7_lay 32 = .ok (.aload_n 0, 1) := by decide +kernel
theorem dX7_lay_33 : decode cX7_lay 33 = .ok (.getfield 11, 3) := by decide +kernel
theorem dX7_lay_36 : decode cX7_lay 36 = .ok (.iload_n 1, 1) := by decide +kernel
theorem dX7_lay_37 : decode cX7_lay 37 = .ok (.iconst 1, 1) := by decide +kernel
theorem dX7_lay_38 : decode cX7_lay 38 = .ok (.bastore, 1) := by decide +kernel
theorem dX7_lay_39 : decode cX7_lay 39 = .ok (.aload_n 0, 1) := by decide +kernel
theorem dX7_lay_40 : decode cX7_lay 40 = .ok (.getfield 15, 3) := by decide +kernel
theorem dX7_lay_43 : decode cX7_lay 43 = .ok (.iload_n 1, 1) := by decide +kernel
theorem dX7_lay_44 : decode cX7_lay 44 = .ok (.iload_n 2, 1) := by decide +kernel
theorem dX7_lay_45 : decode cX7_lay 45 = .ok (.iastore, 1) := by decide +kernel
theorem dX7_lay_46 : decode cX7_lay 46 = .ok (.aload_n 0, 1) := by decide +kernel
theorem dX7_lay_47 : decode cX7_lay 47 = .ok (.getfield 19, 3) := by decide +kernel
theorem dX7_lay_50 : decode cX7_lay 50 = .ok (.iload_n 1, 1) := by decide +kernel
theorem dX7_lay_51 : decode cX7_lay 51 = .ok (.iload_n 3, 1) := by decide +kernel
theorem dX7_lay_52 : decode cX7_lay 52 = .ok (.iastore, 1) := by decide +kernel
theorem dX7_lay_53 : decode cX7_lay 53 = .ok (.iconst 0, 1) := by decide +kernel
theorem dX7_lay_54 : decode cX7_lay 54 = .ok (.istore 4, 2) := by decide +kernel
theorem dX7_lay_56 : decode cX7_lay 56 = .ok (.iload 4, 2) := by decide +kernel
theorem dX7_lay_58 : decode cX7_lay 58 = .ok (.iload_n 3, 1) := by decide +kernel
theorem dX7_lay_59 : decode cX7_lay 59 = .ok (.if_icmp .ge 22, 3) := by decide +kernel
theorem dX7_lay_62 : decode cX7_lay 62 = .ok (.aload_n 0, 1) := by decide +kernel
theorem dX7_lay_63 : decode cX7_lay 63 = .ok (.getfield 22, 3) := by decide +kernel
theorem dX7_lay_66 : decode cX7_lay 66 = .ok (.iload_n 1, 1) := by decide +kernel
theorem dX7_lay_67 : decode cX7_lay 67 = .ok (.bipush 60, 2) := by decide +kernel
theorem dX7_lay_69 : decode cX7_lay 69 = .ok (.imul, 1) := by decide +kernel
theorem dX7_lay_70 : decode cX7_lay 70 = .ok (.iload 4, 2) := by decide +kernel
theorem dX7_lay_72 : decode cX7_lay 72 = .ok (.iadd, 1) := by decide +kernel
theorem dX7_lay_73 : decode cX7_lay 73 = .ok (.lconst 0, 1) := by decide +kernel
theorem dX7_lay_74 : decode cX7_lay 74 = .ok (.lastore, 1) := by decide +kernel
theorem dX7_lay_75 : decode cX7_lay 75 = .ok (.iinc 4 1, 3) := by decide +kernel
theorem dX7_lay_78 : decode cX7_lay 78 = .ok (.goto (-22), 3) := by decide +kernel
theorem dX7_lay_81 : decode cX7_lay 81 = .ok (.iconst 0, 1) := by decide +kernel
theorem dX7_lay_82 : decode cX7_lay 82 = .ok (.ireturn, 1) := by decide +kernel
theorem dX7_put_0 : decode cX7_put 0 = .ok (.iload_n 1, 1) := by decide +kernel
theorem dX7_put_1 : decode cX7_put 1 = .ok (.invokestatic 26, 3) := by decide +kernel
theorem dX7_put_4 : decode cX7_put 4 = .ok (.ifCond .ne 6, 3) := by decide +kernel
theorem dX7_put_7 : decode cX7_put 7 = .ok (.bipush (-2), 2) := by decide +kernel
theorem dX7_put_9 : decode cX7_put 9 = .ok (.ireturn, 1) := by decide +kernel
theorem dX7_put_10 : decode cX7_put 10 = .ok (.aload_n 0, 1) := by decide +kernel
theorem dX7_put_11 : decode cX7_put 11 = .ok (.getfield 11, 3) := by decide +kernel
theorem dX7_put_14 : decode cX7_put 14 = .ok (.iload_n 1, 1) := by decide +kernel
theorem dX7_put_15 : decode cX7_put 15 = .ok (.baload, 1) := by decide +kernel
theorem dX7_put_16 : decode cX7_put 16 = .ok (.ifCond .ne 6, 3) := by decide +kernel
theorem dX7_put_19 : decode cX7_put 19 = .ok (.bipush (-6), 2) := by decide +kernel
theorem dX7_put_21 : decode cX7_put 21 = .ok (.ireturn, 1) := by decide +kernel
theorem dX7_put_22 : decode cX7_put 22 = .ok (.iload_n 2, 1) := by decide +kernel
theorem dX7_put_23 : decode cX7_put 23 = .ok (.ifCond .lt 13, 3) := by decide +kernel
theorem dX7_put_26 : decode cX7_put 26 = .ok (.iload_n 2, 1) := by decide +kernel
theorem dX7_put_27 : decode cX7_put 27 = .ok (.aload_n 0, 1) := by decide +kernel
theorem dX7_put_28 : decode cX7_put 28 = .ok (.getfield 19, 3) := by decide +kernel
theorem dX7_put_31 : decode cX7_put 31 = .ok (.iload_n 1, 1) := by decide +kernel
theorem dX7_put_32 : decode cX7_put 32 = .ok (.iaload, 1) := by decide +kernel
theorem dX7_put_33 : decode cX7_put 33 = .ok (.if_icmp .lt 6, 3) := by decide +kernel
theorem dX7_put_36 : decode cX7_put 36 = .ok (.bipush (-7), 2) := by decide +kernel
theorem dX7_put_38 : decode cX7_put 38 = .ok (.ireturn, 1) := by decide +kernel
theorem dX7_put_39 : decode cX7_put 39 = .ok (.aload_n 0, 1) := by decide +kernel
theorem dX7_put_40 : decode cX7_put 40 = .ok (.getfield 22, 3) := by decide +kernel
theorem dX7_put_43 : decode cX7_put 43 = .ok (.iload_n 1, 1) := by decide +kernel
theorem dX7_put_44 : decode cX7_put 44 = .ok (.bipush 60, 2) := by decide +kernel
theorem dX7_put_46 : decode cX7_put 46 = .ok (.imul, 1) := by decide +kernel
theorem dX7_put_47 : decode cX7_put 47 = .ok (.iload_n 2, 1) := by decide +kernel
theorem dX7_put_48 : decode cX7_put 48 = .ok (.iadd, 1) := by decide +kernel
theorem dX7_put_49 : decode cX7_put 49 = .ok (.aload_n 0, 1) := by decide +kernel
theorem dX7_put_50 : decode cX7_put 50 = .ok (.getfield 15, 3) := by decide +kernel
theorem dX7_put_53 : decode cX7_put 53 = .ok (.iload_n 1, 1) := by decide +kernel
theorem dX7_put_54 : decode cX7_put 54 = .ok (.iaload, 1) := by decide +kernel
theorem dX7_put_55 : decode cX7_put 55 = .ok (.lload_n 3, 1) := by decide +kernel
theorem dX7_put_56 : decode cX7_put 56 = .ok (.invokestatic 30, 3) := by decide +kernel
theorem dX7_put_59 : decode cX7_put 59 = .ok (.lastore, 1) := by decide +kernel
theorem dX7_put_60 : decode cX7_put 60 = .ok (.iconst 0, 1) := by decide +kernel
theorem dX7_put_61 : decode cX7_put 61 = .ok (.ireturn, 1) := by decide +kernel
theorem dX7_copy_0 : decode cX7_copy 0 = .ok (.iload_n 1, 1) := by decide +kernel
theorem dX7_copy_1 : decode cX7_copy 1 = .ok (.invokestatic 26, 3) := by decide +kernel
theorem dX7_copy_4 : decode cX7_copy 4 = .ok (.ifCond .eq 10, 3) := by decide +kernel
theorem dX7_copy_7 : decode cX7_copy 7 = .ok (.iload_n 3, 1) := by decide +kernel
theorem dX7_copy_8 : decode cX7_copy 8 = .ok (.invokestatic 26, 3) := by decide +kernel
theorem dX7_copy_11 : decode cX7_copy 11 = .ok (.ifCond .ne 6, 3) := by decide +kernel
theorem dX7_copy_14 : decode cX7_copy 14 = .ok (.bipush (-2), 2) := by decide +kernel
theorem dX7_copy_16 : decode cX7_copy 16 = .ok (.ireturn, 1) := by decide +kernel
theorem dX7_copy_17 : decode cX7_copy 17 = .ok (.aload_n 0, 1) := by decide +kernel
theorem dX7_copy_18 : decode cX7_copy 18 = .ok (.getfield 11, 3) := by decide +kernel
theorem dX7_copy_21 : decode cX7_copy 21 = .ok (.iload_n 1, 1) := by decide +kernel
theorem dX7_copy_22 : decode cX7_copy 22 = .ok (.baload, 1) := by decide +kernel
theorem dX7_copy_23 : decode cX7_copy 23 = .ok (.ifCond .eq 12, 3) := by decide +kernel
theorem dX7_copy_26 : decode cX7_copy 26 = .ok (.aload_n 0, 1) := by decide +kernel
theorem dX7_copy_27 : decode cX7_copy 27 = .ok (.getfield 11, 3) := by decide +kernel
theorem dX7_copy_30 : decode cX7_copy 30 = .ok (.iload_n 3, 1) := by decide +kernel
theorem dX7_copy_31 : decode cX7_copy 31 = .ok (.baload, 1) := by decide +kernel
theorem dX7_copy_32 : decode cX7_copy 32 = .ok (.ifCond .ne 6, 3) := by decide +kernel
theorem dX7_copy_35 : decode cX7_copy 35 = .ok (.bipush (-6), 2) := by decide +kernel
theorem dX7_copy_37 : decode cX7_copy 37 = .ok (.ireturn, 1) := by decide +kernel
theorem dX7_copy_38 : decode cX7_copy 38 = .ok (.aload_n 0, 1) := by decide +kernel
theorem dX7_copy_39 : decode cX7_copy 39 = .ok (.getfield 15, 3) := by decide +kernel
theorem dX7_copy_42 : decode cX7_copy 42 = .ok (.iload_n 1, 1) := by decide +kernel
theorem dX7_copy_43 : decode cX7_copy 43 = .ok (.iaload, 1) := by decide +kernel
theorem dX7_copy_44 : decode cX7_copy 44 = .ok (.aload_n 0, 1) := by decide +kernel
theorem dX7_copy_45 : decode cX7_copy 45 = .ok (.getfield 15, 3) := by decide +kernel
theorem dX7_copy_48 : decode cX7_copy 48 = .ok (.iload_n 3, 1) := by decide +kernel
theorem dX7_copy_49 : decode cX7_copy 49 = .ok (.iaload, 1) := by decide +kernel
theorem dX7_copy_50 : decode cX7_copy 50 = .ok (.if_icmp .eq 6, 3) := by decide +kernel
theorem dX7_copy_53 : decode cX7_copy 53 = .ok (.bipush (-8), 2) := by decide +kernel
theorem dX7_copy_55 : decode cX7_copy 55 = .ok (.ireturn, 1) := by decide +kernel
theorem dX7_copy_56 : decode cX7_copy 56 = .ok (.aload_n 0, 1) := by decide +kernel
theorem dX7_copy_57 : decode cX7_copy 57 = .ok (.iload_n 1, 1) := by decide +kernel
theorem dX7_copy_58 : decode cX7_copy 58 = .ok (.iload_n 2, 1) := by decide +kernel
theorem dX7_copy_59 : decode cX7_copy 59 = .ok (.iload 5, 2) := by decide +kernel
theorem dX7_copy_61 : decode cX7_copy 61 = .ok (.invokevirtual 34, 3) := by decide +kernel
theorem dX7_copy_64 : decode cX7_copy 64 = .ok (.ifCond .eq 15, 3) := by decide +kernel
theorem dX7_copy_67 : decode cX7_copy 67 = .ok (.aload_n 0, 1) := by decide +kernel
theorem dX7_copy_68 : decode cX7_copy 68 = .ok (.iload_n 3, 1) := by decide +kernel
theorem dX7_copy_69 : decode cX7_copy 69 = .ok (.iload 4, 2) := by decide +kernel
theorem dX7_copy_71 : decode cX7_copy 71 = .ok (.iload 5, 2) := by decide +kernel
theorem dX7_copy_73 : decode cX7_copy 73 = .ok (.invokevirtual 34, 3) := by decide +kernel
theorem dX7_copy_76 : decode cX7_copy 76 = .ok (.ifCond .ne 6, 3) := by decide +kernel
theorem dX7_copy_79 : decode cX7_copy 79 = .ok (.bipush (-7), 2) := by decide +kernel
theorem dX7_copy_81 : decode cX7_copy 81 = .ok (.ireturn, 1) := by decide +kernel
theorem dX7_copy_82 : decode cX7_copy 82 = .ok (.aload_n 0, 1) := by decide +kernel
theorem dX7_copy_83 : decode cX7_copy 83 = .ok (.getfield 22, 3) := by decide +kernel
theorem dX7_copy_86 : decode cX7_copy 86 = .ok (.iload_n 1, 1) := by decide +kernel
theorem dX7_copy_87 : decode cX7_copy 87 = .ok (.bipush 60, 2) := by decide +kernel
theorem dX7_copy_89 : decode cX7_copy 89 = .ok (.imul, 1) := by decide +kernel
theorem dX7_copy_90 : decode cX7_copy 90 = .ok (.iload_n 2, 1) := by decide +kernel
theorem dX7_copy_91 : decode cX7_copy 91 = .ok (.iadd, 1) := by decide +kernel
theorem dX7_copy_92 : decode cX7_copy 92 = .ok (.aload_n 0, 1) := by decide +kernel
theorem dX7_copy_93 : decode cX7_copy 93 = .ok (.getfield 22, 3) := by decide +kernel
theorem dX7_copy_96 : decode cX7_copy 96 = .ok (.iload_n 3, 1) := by decide +kernel
theorem dX7_copy_97 : decode cX7_copy 97 = .ok (.bipush 60, 2) := by decide +kernel
theorem dX7_copy_99 : decode cX7_copy 99 = .ok (.imul, 1) := by decide +kernel
theorem dX7_copy_100 : decode cX7_copy 100 = .ok (.iload 4, 2) := by decide +kernel
theorem dX7_copy_102 : decode cX7_copy 102 = .ok (.iadd, 1) := by decide +kernel
theorem dX7_copy_103 : decode cX7_copy 103 = .ok (.iload 5, 2) := by decide +kernel
theorem dX7_copy_105 : decode cX7_copy 105 = .ok (.invokestatic 38, 3) := by decide +kernel
theorem dX7_copy_108 : decode cX7_copy 108 = .ok (.iconst 0, 1) := by decide +kernel
theorem dX7_copy_109 : decode cX7_copy 109 = .ok (.ireturn, 1) := by decide +kernel
theorem dX7_isWithin_0 : decode cX7_isWithin 0 = .ok (.iload_n 2, 1) := by decide +kernel
theorem dX7_isWithin_1 : decode cX7_isWithin 1 = .ok (.ifCond .lt 33, 3) := by decide +kernel
theorem dX7_isWithin_4 : decode cX7_isWithin 4 = .ok (.iload_n 3, 1) := by decide +kernel
theorem dX7_isWithin_5 : decode cX7_isWithin 5 = .ok (.ifCond .lt 29, 3) := by decide +kernel
theorem dX7_isWithin_8 : decode cX7_isWithin 8 = .ok (.iload_n 2, 1) := by decide +kernel
theorem dX7_isWithin_9 : decode cX7_isWithin 9 = .ok (.aload_n 0, 1) := by decide +kernel
theorem dX7_isWithin_10 : decode cX7_isWithin 10 = .ok (.getfield 19, 3) := by decide +kernel
theorem dX7_isWithin_13 : decode cX7_isWithin 13 = .ok (.iload_n 1, 1) := by decide +kernel
theorem dX7_isWithin_14 : decode cX7_isWithin 14 = .ok (.iaload, 1) := by decide +kernel
theorem dX7_isWithin_15 : decode cX7_isWithin 15 = .ok (.if_icmp .gt 19, 3) := by decide +kernel
theorem dX7_isWithin_18 : decode cX7_isWithin 18 = .ok (.iload_n 3, 1) := by decide +kernel
theorem dX7_isWithin_19 : decode cX7_isWithin 19 = .ok (.aload_n 0, 1) := by decide +kernel
theorem dX7_isWithin_20 : decode cX7_isWithin 20 = .ok (.getfield 19, 3) := by decide +kernel
theorem dX7_isWithin_23 : decode cX7_isWithin 23 = .ok (.iload_n 1, 1) := by decide +kernel
theorem dX7_isWithin_24 : decode cX7_isWithin 24 = .ok (.iaload, 1) := by decide +kernel
theorem dX7_isWithin_25 : decode cX7_isWithin 25 = .ok (.iload_n 2, 1) := by decide +kernel
theorem dX7_isWithin_26 : decode cX7_isWithin 26 = .ok (.isub, 1) := by decide +kernel
theorem dX7_isWithin_27 : decode cX7_isWithin 27 = .ok (.if_icmp .gt 7, 3) := by decide +kernel
theorem dX7_isWithin_30 : decode cX7_isWithin 30 = .ok (.iconst 1, 1) := by decide +kernel
theorem dX7_isWithin_31 : decode cX7_isWithin 31 = .ok (.goto 4, 3) := by decide +kernel
theorem dX7_isWithin_34 : decode cX7_isWithin 34 = .ok (.iconst 0, 1) := by decide +kernel
theorem dX7_isWithin_35 : decode cX7_isWithin 35 = .ok (.ireturn, 1) := by decide +kernel
theorem dX7_isSlot_0 : decode cX7_isSlot 0 = .ok (.iload_n 0, 1) := by decide +kernel
theorem dX7_isSlot_1 : decode cX7_isSlot 1 = .ok (.ifCond .lt 12, 3) := by decide +kernel
theorem dX7_isSlot_4 : decode cX7_isSlot 4 = .ok (.iload_n 0, 1) := by decide +kernel
theorem dX7_isSlot_5 : decode cX7_isSlot 5 = .ok (.iconst 4, 1) := by decide +kernel
theorem dX7_isSlot_6 : decode cX7_isSlot 6 = .ok (.if_icmp .ge 7, 3) := by decide +kernel
theorem dX7_isSlot_9 : decode cX7_isSlot 9 = .ok (.iconst 1, 1) := by decide +kernel
theorem dX7_isSlot_10 : decode cX7_isSlot 10 = .ok (.goto 4, 3) := by decide +kernel
theorem dX7_isSlot_13 : decode cX7_isSlot 13 = .ok (.iconst 0, 1) := by decide +kernel
theorem dX7_isSlot_14 : decode cX7_isSlot 14 = .ok (.ireturn, 1) := by decide +kernel
theorem dX7_cutTo_0 : decode cX7_cutTo 0 = .ok (.iload_n 0, 1) := by decide +kernel
theorem dX7_cutTo_1 : decode cX7_cutTo 1 = .ok (.tableswitch 41 0 2 #[27, 32, 37], 27) := by decide +kernel
theorem dX7_cutTo_28 : decode cX7_cutTo 28 = .ok (.lload_n 1, 1) := by decide +kernel
theorem dX7_cutTo_29 : decode cX7_cutTo 29 = .ok (.l2i, 1) := by decide +kernel
theorem dX7_cutTo_30 : decode cX7_cutTo 30 = .ok (.i2b, 1) := by decide +kernel
theorem dX7_cutTo_31 : decode cX7_cutTo 31 = .ok (.i2l, 1) := by decide +kernel
theorem dX7_cutTo_32 : decode cX7_cutTo 32 = .ok (.lreturn, 1) := by decide +kernel
theorem dX7_cutTo_33 : decode cX7_cutTo 33 = .ok (.lload_n 1, 1) := by decide +kernel
theorem dX7_cutTo_34 : decode cX7_cutTo 34 = .ok (.l2i, 1) := by decide +kernel
theorem dX7_cutTo_35 : decode cX7_cutTo 35 = .ok (.i2s, 1) := by decide +kernel
theorem dX7_cutTo_36 : decode cX7_cutTo 36 = .ok (.i2l, 1) := by decide +kernel
theorem dX7_cutTo_37 : decode cX7_cutTo 37 = .ok (.lreturn, 1) := by decide +kernel
theorem dX7_cutTo_38 : decode cX7_cutTo 38 = .ok (.lload_n 1, 1) := by decide +kernel
theorem dX7_cutTo_39 : decode cX7_cutTo 39 = .ok (.l2i, 1) := by decide +kernel
theorem dX7_cutTo_40 : decode cX7_cutTo 40 = .ok (.i2l, 1) := by decide +kernel
theorem dX7_cutTo_41 : decode cX7_cutTo 41 = .ok (.lreturn, 1) := by decide +kernel
theorem dX7_cutTo_42 : decode cX7_cutTo 42 = .ok (.lload_n 1, 1) := by decide +kernel
theorem dX7_cutTo_43 : decode cX7_cutTo 43 = .ok (.lreturn, 1) := by decide +kernel
theorem dX8_init_0 : decode cX8_init 0 = .ok (.aload_n 0, 1) := by decide +kernel
theorem dX8_init_1 : decode cX8_init 1 = .ok (.invokespecial 3, 3) := by decide +kernel
theorem dX8_init_4 : decode cX8_init 4 = .ok (.aload_n 0, 1) := by decide +kernel
theorem dX8_init_5 : decode cX8_init 5 = .ok (.aload_n 1, 1) := by decide +kernel
theorem dX8_init_6 : decode cX8_init 6 = .ok (.putfield 9, 3) := by decide +kernel
theorem dX8_init_9 : decode cX8_init 9 = .ok (.return_, 1) := by decide +kernel
theorem dX8_fitting_0 : decode cX8_fitting 0 = .ok (.iconst 0, 1) := by decide +kernel
theorem dX8_fitting_1 : decode cX8_fitting 1 = .ok (.istore_n 2, 1) := by decide +kernel
theorem dX8_fitting_2 : decode cX8_fitting 2 = .ok (.iconst 0, 1) := by decide +kernel
theorem dX8_fitting_3 : decode cX8_fitting 3 = .ok (.istore_n 3, 1) := by decide +kernel
theorem dX8_fitting_4 : decode cX8_fitting 4 = .ok (.iload_n 3, 1) := by decide +kernel
theorem dX8_fitting_5 : decode cX8_fitting 5 = .ok (.aload_n 0, 1) := by decide +kernel
theorem dX8_fitting_6 : decode cX8_fitting 6 = .ok (.getfield 9, 3) := by decide +kernel
theorem dX8_fitting_9 : decode cX8_fitting 9 = .ok (.getfield 15, 3) := by decide +kernel
theorem dX8_fitting_12 : decode cX8_fitting 12 = .ok (.getfield 21, 3) := by decide +kernel
theorem dX8_fitting_15 : decode cX8_fitting 15 = .ok (.if_icmp .ge 27, 3) := by decide +kernel
theorem dX8_fitting_18 : decode cX8_fitting 18 = .ok (.iload_n 1, 1) := by decide +kernel
theorem dX8_fitting_19 : decode cX8_fitting 19 = .ok (.aload_n 0, 1) := by decide +kernel
theorem dX8_fitting_20 : decode cX8_fitting 20 = .ok (.iload_n 3, 1) := by decide +kernel
theorem dX8_fitting_21 : decode cX8_fitting 21 = .ok (.invokevirtual 27, 3) := by decide +kernel
theorem dX8_fitting_24 : decode cX8_fitting 24 = .ok (.iconst (-1), 1) := by decide +kernel
theorem dX8_fitting_25 : decode cX8_fitting 25 = .ok (.ixor, 1) := by decide +kernel
theorem dX8_fitting_26 : decode cX8_fitting 26 = .ok (.iand, 1) := by decide +kernel
theorem dX8_fitting_27 : decode cX8_fitting 27 = .ok (.ifCond .ne 9, 3) := by decide +kernel
theorem dX8_fitting_30 : decode cX8_fitting 30 = .ok (.iload_n 2, 1) := by decide +kernel
theorem dX8_fitting_31 : decode cX8_fitting 31 = .ok (.iconst 1, 1) := by decide +kernel
theorem dX8_fitting_32 : decode cX8_fitting 32 = .ok (.iload_n 3, 1) := by decide +kernel
theorem dX8_fitting_33 : decode cX8_fitting 33 = .ok (.ishl, 1) := by decide +kernel
theorem dX8_fitting_34 : decode cX8_fitting 34 = .ok (.ior, 1) := by decide +kernel
theorem dX8_fitting_35 : decode cX8_fitting 35 = .ok (.istore_n 2, 1) := by decide +kernel
theorem dX8_fitting_36 : decode cX8_fitting 36 = .ok (.iinc 3 1, 3) := by decide +kernel
theorem dX8_fitting_39 : decode cX8_fitting 39 = .ok (.goto (-35), 3) := by decide +kernel
theorem dX8_fitting_42 : decode cX8_fitting 42 = .ok (.iload_n 2, 1) := by decide +kernel
theorem dX8_fitting_43 : decode cX8_fitting 43 = .ok (.ireturn, 1) := by decide +kernel
theorem dX8_trainToWatch_0 : decode cX8_trainToWatch 0 = .ok (.iconst (-1), 1) := by decide +kernel
theorem dX8_trainToWatch_1 : decode cX8_trainToWatch 1 = .ok (.istore_n 2, 1) := by decide +kernel
theorem dX8_trainToWatch_2 : decode cX8_trainToWatch 2 = .ok (.aload_n 0, 1) := by decide +kernel
theorem dX8_trainToWatch_3 : decode cX8_trainToWatch 3 = .ok (.iload_n 1, 1) := by decide +kernel
theorem dX8_trainToWatch_4 : decode cX8_trainToWatch 4 = .ok (.invokevirtual 31, 3) := by decide +kernel
theorem dX8_trainToWatch_7 : decode cX8_trainToWatch 7 = .ok (.invokestatic 34, 3) := by decide +kernel
theorem dX8_trainToWatch_10 : decode cX8_trainToWatch 10 = .ok (.istore_n 3, 1) := by decide +kernel
theorem dX8_trainToWatch_11 : decode cX8_trainToWatch 11 = .ok (.iconst 0, 1) := by decide +kernel
theorem dX8_trainToWatch_12 : decode cX8_trainToWatch 12 = .ok (.istore 4, 2) := by decide +kernel
theorem dX8_trainToWatch_14 : decode cX8_trainToWatch 14 = .ok (.iload 4, 2) := by decide +kernel
theorem dX8_trainToWatch_16 : decode cX8_trainToWatch 16 = .ok (.aload_n 0, 1) := by decide +kernel
theorem dX8_trainToWatch_17 : decode cX8_trainToWatch 17 = .ok (.getfield 9, 3) := by decide +kernel
theorem dX8_trainToWatch_20 : decode cX8_trainToWatch 20 = .ok (.getfield 39, 3) := by decide +kernel
theorem dX8_trainToWatch_23 : decode cX8_trainToWatch 23 = .ok (.getfield 21, 3) := by decide +kernel
theorem dX8_trainToWatch_26 : decode cX8_trainToWatch 26 = .ok (.if_icmp .ge 39, 3) := by decide +kernel
theorem dX8_trainToWatch_29 : decode cX8_trainToWatch 29 = .ok (.aload_n 0, 1) := by decide +kernel
theorem dX8_trainToWatch_30 : decode cX8_trainToWatch 30 = .ok (.iload_n 1, 1) := by decide +kernel
theorem dX8_trainToWatch_31 : decode cX8_trainToWatch 31 = .ok (.iload 4, 2) := by decide +kernel
theorem dX8_trainToWatch_33 : decode cX8_trainToWatch 33 = .ok (.invokevirtual 42, 3) := by decide +kernel
theorem dX8_trainToWatch_36 : decode cX8_trainToWatch 36 = .ok (.istore 5, 2) := by decide +kernel
theorem dX8_trainToWatch_38 : decode cX8_trainToWatch 38 = .ok (.iload_n 1, 1) := by decide +kernel
theorem dX8_trainToWatch_39 : decode cX8_trainToWatch 39 = .ok (.iload 4, 2) := by decide +kernel
theorem dX8_trainToWatch_41 : decode cX8_trainToWatch 41 = .ok (.invokestatic 46, 3) := by decide +kernel
theorem dX8_trainToWatch_44 : decode cX8_trainToWatch 44 = .ok (.ifCond .ne 15, 3) := by decide +kernel
theorem dX8_trainToWatch_47 : decode cX8_trainToWatch 47 = .ok (.iload 5, 2) := by decide +kernel
theorem dX8_trainToWatch_49 : decode cX8_trainToWatch 49 = .ok (.iload_n 3, 1) := by decide +kernel
theorem dX8_trainToWatch_50 : decode cX8_trainToWatch 50 = .ok (.if_icmp .ge 9, 3) := by decide +kernel
theorem dX8_trainToWatch_53 : decode cX8_trainToWatch 53 = .ok (.iload 5, 2) := by decide +kernel
theorem dX8_trainToWatch_55 : decode cX8_trainToWatch 55 = .ok (.istore_n 3, 1) := by decide +kernel
theorem dX8_trainToWatch_56 : decode cX8_trainToWatch 56 = .ok (.iload 4, 2) := by decide +kernel
theorem dX8_trainToWatch_58 : decode cX8_trainToWatch 58 = .ok (.istore_n 2, 1) := by decide +kernel
theorem dX8_trainToWatch_59 : decode cX8_trainToWatch 59 = .ok (.iinc 4 1, 3) := by decide +kernel
theorem dX8_trainToWatch_62 : decode cX8_trainToWatch 62 = .ok (.goto (-48), 3) := by decide +kernel
theorem dX8_trainToWatch_65 : decode cX8_trainToWatch 65 = .ok (.iload_n 2, 1) := by decide +kernel
theorem dX8_trainToWatch_66 : decode cX8_trainToWatch 66 = .ok (.ireturn, 1) := by decide +kernel
theorem dX8_leftAtWorst_0 : decode cX8_leftAtWorst 0 = .ok (.aload_n 0, 1) := by decide +kernel
theorem dX8_leftAtWorst_1 : decode cX8_leftAtWorst 1 = .ok (.iload_n 1, 1) := by decide +kernel
theorem dX8_leftAtWorst_2 : decode cX8_leftAtWorst 2 = .ok (.invokevirtual 31, 3) := by decide +kernel
theorem dX8_leftAtWorst_5 : decode cX8_leftAtWorst 5 = .ok (.invokestatic 34, 3) := by decide +kernel
theorem dX8_leftAtWorst_8 : decode cX8_leftAtWorst 8 = .ok (.istore_n 3, 1) := by decide +kernel
theorem dX8_leftAtWorst_9 : decode cX8_leftAtWorst 9 = .ok (.iload_n 2, 1) := by decide +kernel
theorem dX8_leftAtWorst_10 : decode cX8_leftAtWorst 10 = .ok (.iconst (-1), 1) := by decide +kernel
theorem dX8_leftAtWorst_11 : decode cX8_leftAtWorst 11 = .ok (.if_icmp .ne 5, 3) := by decide +kernel
theorem dX8_leftAtWorst_14 : decode cX8_leftAtWorst 14 = .ok (.iload_n 3, 1) := by decide +kernel
theorem dX8_leftAtWorst_15 : decode cX8_leftAtWorst 15 = .ok (.ireturn, 1) := by decide +kernel
theorem dX8_leftAtWorst_16 : decode cX8_leftAtWorst 16 = .ok (.aload_n 0, 1) := by decide +kernel
theorem dX8_leftAtWorst_17 : decode cX8_leftAtWorst 17 = .ok (.iload_n 1, 1) := by decide +kernel
theorem dX8_leftAtWorst_18 : decode cX8_leftAtWorst 18 = .ok (.iconst 1, 1) := by decide +kernel
theorem dX8_leftAtWorst_19 : decode cX8_leftAtWorst 19 = .ok (.iload_n 2, 1) := by decide +kernel
theorem dX8_leftAtWorst_20 : decode cX8_leftAtWorst 20 = .ok (.ishl, 1) := by decide +kernel
theorem dX8_leftAtWorst_21 : decode cX8_leftAtWorst 21 = .ok (.ior, 1) := by decide +kernel
theorem dX8_leftAtWorst_22 : decode cX8_leftAtWorst 22 = .ok (.invokevirtual 31, 3) := by decide +kernel
theorem dX8_leftAtWorst_25 : decode cX8_leftAtWorst 25 = .ok (.invokestatic 34, 3) := by decide +kernel
theorem dX8_leftAtWorst_28 : decode cX8_leftAtWorst 28 = .ok (.istore 4, 2) := by decide +kernel
theorem dX8_leftAtWorst_30 : decode cX8_leftAtWorst 30 = .ok (.iload 4, 2) := by decide +kernel
theorem dX8_leftAtWorst_32 : decode cX8_leftAtWorst 32 = .ok (.iload_n 3, 1) := by decide +kernel
theorem dX8_leftAtWorst_33 : decode cX8_leftAtWorst 33 = .ok (.iload 4, 2) := by decide +kernel
theorem dX8_leftAtWorst_35 : decode cX8_leftAtWorst 35 = .ok (.isub, 1) := by decide +kernel
theorem dX8_leftAtWorst_36 : decode cX8_leftAtWorst 36 = .ok (.invokestatic 50, 3) := by decide +kernel
theorem dX8_leftAtWorst_39 : decode cX8_leftAtWorst 39 = .ok (.ireturn, 1) := by decide +kernel
theorem dX8_knownToAll_0 : decode cX8_knownToAll 0 = .ok (.aload_n 0, 1) := by decide +kernel
theorem dX8_knownToAll_1 : decode cX8_knownToAll 1 = .ok (.iload_n 1, 1) := by decide +kernel
theorem dX8_knownToAll_2 : decode cX8_knownToAll 2 = .ok (.invokevirtual 31, 3) := by decide +kernel
theorem dX8_knownToAll_5 : decode cX8_knownToAll 5 = .ok (.istore_n 2, 1) := by decide +kernel
theorem dX8_knownToAll_6 : decode cX8_knownToAll 6 = .ok (.iload_n 2, 1) := by decide +kernel
theorem dX8_knownToAll_7 : decode cX8_knownToAll 7 = .ok (.ifCond .ne 7, 3) := by decide +kernel
theorem dX8_knownToAll_10 : decode cX8_knownToAll 10 = .ok (.iconst 0, 1) := by decide +kernel
theorem dX8_knownToAll_11 : decode cX8_knownToAll 11 = .ok (.goto 12, 3) := by decide +kernel
theorem dX8_knownToAll_14 : decode cX8_knownToAll 14 = .ok (.aload_n 0, 1) := by decide +kernel
theorem dX8_knownToAll_15 : decode cX8_knownToAll 15 = .ok (.getfield 9, 3) := by decide +kernel
theorem dX8_knownToAll_18 : decode cX8_knownToAll 18 = .ok (.invokevirtual 55, 3) := by decide +kernel
theorem dX8_knownToAll_21 : decode cX8_knownToAll 21 = .ok (.iconst 1, 1) := by decide +kernel
theorem dX8_knownToAll_22 : decode cX8_knownToAll 22 = .ok (.isub, 1) := by decide +kernel
theorem dX8_knownToAll_23 : decode cX8_knownToAll 23 = .ok (.istore_n 3, 1) := by decide +kernel
theorem dX8_knownToAll_24 : decode cX8_knownToAll 24 = .ok (.iconst 0, 1) := by decide +kernel
theorem dX8_knownToAll_25 : decode cX8_knownToAll 25 = .ok (.istore 4, 2) := by decide +kernel
theorem dX8_knownToAll_27 : decode cX8_knownToAll 27 = .ok (.iload 4, 2) := by decide +kernel
theorem dX8_knownToAll_29 : decode cX8_knownToAll 29 = .ok (.aload_n 0, 1) := by decide +kernel
theorem dX8_knownToAll_30 : decode cX8_knownToAll 30 = .ok (.getfield 9, 3) := by decide +kernel
theorem dX8_knownToAll_33 : decode cX8_knownToAll 33 = .ok (.getfield 15, 3) := by decide +kernel
theorem dX8_knownToAll_36 : decode cX8_knownToAll 36 = .ok (.getfield 21, 3) := by decide +kernel
theorem dX8_knownToAll_39 : decode cX8_knownToAll 39 = .ok (.if_icmp .ge 27, 3) := by decide +kernel
theorem dX8_knownToAll_42 : decode cX8_knownToAll 42 = .ok (.iload_n 2, 1) := by decide +kernel
theorem dX8_knownToAll_43 : decode cX8_knownToAll 43 = .ok (.iload 4, 2) := by decide +kernel
theorem dX8_knownToAll_45 : decode cX8_knownToAll 45 = .ok (.invokestatic 46, 3) := by decide +kernel
theorem dX8_knownToAll_48 : decode cX8_knownToAll 48 = .ok (.ifCond .eq 12, 3) := by decide +kernel
theorem dX8_knownToAll_51 : decode cX8_knownToAll 51 = .ok (.iload_n 3, 1) := by decide +kernel
theorem dX8_knownToAll_52 : decode cX8_knownToAll 52 = .ok (.aload_n 0, 1) := by decide +kernel
theorem dX8_knownToAll_53 : decode cX8_knownToAll 53 = .ok (.iload 4, 2) := by decide +kernel
theorem dX8_knownToAll_55 : decode cX8_knownToAll 55 = .ok (.invokevirtual 27, 3) := by decide +kernel
theorem dX8_knownToAll_58 : decode cX8_knownToAll 58 = .ok (.iand, 1) := by decide +kernel
theorem dX8_knownToAll_59 : decode cX8_knownToAll 59 = .ok (.istore_n 3, 1) := by decide +kernel
theorem dX8_knownToAll_60 : decode cX8_knownToAll 60 = .ok (.iinc 4 1, 3) := by decide +kernel
theorem dX8_knownToAll_63 : decode cX8_knownToAll 63 = .ok (.goto (-36), 3) := by decide +kernel
theorem dX8_knownToAll_66 : decode cX8_knownToAll 66 = .ok (.iload_n 3, 1) := by decide +kernel
theorem dX8_knownToAll_67 : decode cX8_knownToAll 67 = .ok (.ireturn, 1) := by decide +kernel
theorem dX8_knownToSome_0 : decode cX8_knownToSome 0 = .ok (.aload_n 0, 1) := by decide +kernel
theorem dX8_knownToSome_1 : decode cX8_knownToSome 1 = .ok (.iload_n 1, 1) := by decide +kernel
theorem dX8_knownToSome_2 : decode cX8_knownToSome 2 = .ok (.invokevirtual 31, 3) := by decide +kernel
theorem dX8_knownToSome_5 : decode cX8_knownToSome 5 = .ok (.istore_n 2, 1) := by decide +kernel
theorem dX8_knownToSome_6 : decode cX8_knownToSome 6 = .ok (.iconst 0, 1) := by decide +kernel
theorem dX8_knownToSome_7 : decode cX8_knownToSome 7 = .ok (.istore_n 3, 1) := by decide +kernel
theorem dX8_knownToSome_8 : decode cX8_knownToSome 8 = .ok (.iconst 0, 1) := by decide +kernel
theorem dX8_knownToSome_9 : decode cX8_knownToSome 9 = .ok (.istore 4, 2) := by decide +kernel
theorem dX8_knownToSome_11 : decode cX8_knownToSome 11 = .ok (.iload 4, 2) := by decide +kernel
theorem dX8_knownToSome_13 : decode cX8_knownToSome 13 = .ok (.aload_n 0, 1) := by decide +kernel
theorem dX8_knownToSome_14 : decode cX8_knownToSome 14 = .ok (.getfield 9, 3) := by decide +kernel
theorem dX8_knownToSome_17 : decode cX8_knownToSome 17 = .ok (.getfield 15, 3) := by decide +kernel
theorem dX8_knownToSome_20 : decode cX8_knownToSome 20 = .ok (.getfield 21, 3) := by decide +kernel
theorem dX8_knownToSome_23 : decode cX8_knownToSome 23 = .ok (.if_icmp .ge 27, 3) := by decide +kernel
theorem dX8_knownToSome_26 : decode cX8_knownToSome 26 = .ok (.iload_n 2, 1) := by decide +kernel
theorem dX8_knownToSome_27 : decode cX8_knownToSome 27 = .ok (.iload 4, 2) := by decide +kernel
theorem dX8_knownToSome_29 : decode cX8_knownToSome 29 = .ok (.invokestatic 46, 3) := by decide +kernel
theorem dX8_knownToSome_32 : decode cX8_knownToSome 32 = .ok (.ifCond .eq 12, 3) := by decide +kernel
theorem dX8_knownToSome_35 : decode cX8_knownToSome 35 = .ok (.iload_n 3, 1) := by decide +kernel
theorem dX8_knownToSome_36 : decode cX8_knownToSome 36 = .ok (.aload_n 0, 1) := by decide +kernel
theorem dX8_knownToSome_37 : decode cX8_knownToSome 37 = .ok (.iload 4, 2) := by decide +kernel
theorem dX8_knownToSome_39 : decode cX8_knownToSome 39 = .ok (.invokevirtual 27, 3) := by decide +kernel
theorem dX8_knownToSome_42 : decode cX8_knownToSome 42 = .ok (.ior, 1) := by decide +kernel
theorem dX8_knownToSome_43 : decode cX8_knownToSome 43 = .ok (.istore_n 3, 1) := by decide +kernel
theorem dX8_knownToSome_44 : decode cX8_knownToSome 44 = .ok (.iinc 4 1, 3) := by decide +kernel
theorem dX8_knownToSome_47 : decode cX8_knownToSome 47 = .ok (.goto (-36), 3) := by decide +kernel
theorem dX8_knownToSome_50 : decode cX8_knownToSome 50 = .ok (.iload_n 3, 1) := by decide +kernel
theorem dX8_knownToSome_51 : decode cX8_knownToSome 51 = .ok (.ireturn, 1) := by decide +kernel
theorem dX8_knownTo_0 : decode cX8_knownTo 0 = .ok (.aload_n 0, 1) := by decide +kernel
theorem dX8_knownTo_1 : decode cX8_knownTo 1 = .ok (.getfield 9, 3) := by decide +kernel
theorem dX8_knownTo_4 : decode cX8_knownTo 4 = .ok (.getfield 15, 3) := by decide +kernel
theorem dX8_knownTo_7 : decode cX8_knownTo 7 = .ok (.iload_n 1, 1) := by decide +kernel
theorem dX8_knownTo_8 : decode cX8_knownTo 8 = .ok (.iconst 0, 1) := by decide +kernel
theorem dX8_knownTo_9 : decode cX8_knownTo 9 = .ok (.invokevirtual 59, 3) := by decide +kernel
theorem dX8_knownTo_12 : decode cX8_knownTo 12 = .ok (.ireturn, 1) := by decide +kernel
theorem dX9_init_0 : decode cX9_init 0 = .ok (.aload_n 0, 1) := by decide +kernel
theorem dX9_init_1 : decode cX9_init 1 = .ok (.invokespecial 3, 3) := by decide +kernel
theorem dX9_init_4 : decode cX9_init 4 = .ok (.aload_n 0, 1) := by decide +kernel
theorem dX9_init_5 : decode cX9_init 5 = .ok (.iconst 0, 1) := by decide +kernel
theorem dX9_init_6 : decode cX9_init 6 = .ok (.iload_n 1, 1) := by decide +kernel
theorem dX9_init_7 : decode cX9_init 7 = .ok (.invokestatic 9, 3) := by decide +kernel
theorem dX9_init_10 : decode cX9_init 10 = .ok (.putfield 15, 3) := by decide +kernel
theorem dX9_init_13 : decode cX9_init 13 = .ok (.aload_n 0, 1) := by decide +kernel
theorem dX9_init_14 : decode cX9_init 14 = .ok (.iconst 0, 1) := by decide +kernel
theorem dX9_init_15 : decode cX9_init 15 = .ok (.iload_n 2, 1) := by decide +kernel
theorem dX9_init_16 : decode cX9_init 16 = .ok (.invokestatic 9, 3) := by decide +kernel
theorem dX9_init_19 : decode cX9_init 19 = .ok (.putfield 21, 3) := by decide +kernel
theorem dX9_init_22 : decode cX9_init 22 = .ok (.aload_n 0, 1) := by decide +kernel
theorem dX9_init_23 : decode cX9_init 23 = .ok (.aload_n 0, 1) := by decide +kernel
theorem dX9_init_24 : decode cX9_init 24 = .ok (.getfield 15, 3) := by decide +kernel
theorem dX9_init_27 : decode cX9_init 27 = .ok (.aload_n 0, 1) := by decide +kernel
theorem dX9_init_28 : decode cX9_init 28 = .ok (.getfield 21, 3) := by decide +kernel
theorem dX9_init_31 : decode cX9_init 31 = .ok (.imul, 1) := by decide +kernel
theorem dX9_init_32 : decode cX9_init 32 = .ok (.newarray .int, 2) := by decide +kernel
theorem dX9_init_34 : decode cX9_init 34 = .ok (.putfield 24, 3) := by decide +kernel
theorem dX9_init_37 : decode cX9_init 37 = .ok (.return_, 1) := by decide +kernel
theorem dX9_isFull_0 : decode cX9_isFull 0 = .ok (.aload_n 0, 1) := by decide +kernel
theorem dX9_isFull_1 : decode cX9_isFull 1 = .ok (.getfield 28, 3) := by decide +kernel
theorem dX9_isFull_4 : decode cX9_isFull 4 = .ok (.aload_n 0, 1) := by decide +kernel
theorem dX9_isFull_5 : decode cX9_isFull 5 = .ok (.getfield 15, 3) := by decide +kernel
theorem dX9_isFull_8 : decode cX9_isFull 8 = .ok (.if_icmp .lt 7, 3) := by decide +kernel
theorem dX9_isFull_11 : decode cX9_isFull 11 = .ok (.iconst 1, 1) := by decide +kernel
theorem dX9_isFull_12 : decode cX9_isFull 12 = .ok (.goto 4, 3) := by decide +kernel
theorem dX9_isFull_15 : decode cX9_isFull 15 = .ok (.iconst 0, 1) := by decide +kernel
theorem dX9_isFull_16 : decode cX9_isFull 16 = .ok (.ireturn, 1) := by decide +kernel
theorem dX9_cell_0 : decode cX9_cell 0 = .ok (.iload_n 1, 1) := by decide +kernel
theorem dX9_cell_1 : decode cX9_cell 1 = .ok (.ifCond .lt 23, 3) := by decide +kernel
theorem dX9_cell_4 : decode cX9_cell 4 = .ok (.iload_n 1, 1) := by decide +kernel
theorem dX9_cell_5 : decode cX9_cell 5 = .ok (.aload_n 0, 1) := by decide +kernel
theorem dX9_cell_6 : decode cX9_cell 6 = .ok (.getfield 28, 3) := by decide +kernel
theorem dX9_cell_9 : decode cX9_cell 9 = .ok (.if_icmp .ge 15, 3) := by decide +kernel
theorem dX9_cell_12 : decode cX9_cell 12 = .ok (.iload_n 2, 1) := by decide +kernel
theorem dX9_cell_13 : decode cX9_cell 13 = .ok (.ifCond .lt 11, 3) := by decide +kernel
theorem dX9_cell_16 : decode cX9_cell 16 = .ok (.iload_n 2, 1) := by decide +kernel
theorem dX9_cell_17 : decode cX9_cell 17 = .ok (.aload_n 0, 1) := by decide +kernel
theorem dX9_cell_18 : decode cX9_cell 18 = .ok (.getfield 21, 3) := by decide +kernel
theorem dX9_cell_21 : decode cX9_cell 21 = .ok (.if_icmp .lt 6, 3) := by decide +kernel
theorem dX9_cell_24 : decode cX9_cell 24 = .ok (.bipush (-2), 2) := by decide +kernel
theorem dX9_cell_26 : decode cX9_cell 26 = .ok (.ireturn, 1) := by decide +kernel
theorem dX9_cell_27 : decode cX9_cell 27 = .ok (.aload_n 0, 1) := by decide +kernel
theorem dX9_cell_28 : decode cX9_cell 28 = .ok (.getfield 24, 3) := by decide +kernel
theorem dX9_cell_31 : decode cX9_cell 31 = .ok (.iload_n 1, 1) := by decide +kernel
theorem dX9_cell_32 : decode cX9_cell 32 = .ok (.aload_n 0, 1) := by decide +kernel
theorem dX9_cell_33 : decode cX9_cell 33 = .ok (.getfield 21, 3) := by decide +kernel
theorem dX9_cell_36 : decode cX9_cell 36 = .ok (.imul, 1) := by decide +kernel
theorem dX9_cell_37 : decode cX9_cell 37 = .ok (.iload_n 2, 1) := by decide +kernel
theorem dX9_cell_38 : decode cX9_cell 38 = .ok (.iadd, 1) := by decide +kernel
theorem dX9_cell_39 : decode cX9_cell 39 = .ok (.iaload, 1) := by decide +kernel
theorem dX9_cell_40 : decode cX9_cell 40 = .ok (.ireturn, 1) := by decide +kernel
theorem dX9_set_0 : decode cX9_set 0 = .ok (.iload_n 1, 1) := by decide +kernel
theorem dX9_set_1 : decode cX9_set 1 = .ok (.ifCond .lt 37, 3) := by decide +kernel
theorem dX9_set_4 : decode cX9_set 4 = .ok (.iload_n 1, 1) := by decide +kernel
theorem dX9_set_5 : decode cX9_set 5 = .ok (.aload_n 0, 1) := by decide +kernel
theorem dX9_set_6 : decode cX9_set 6 = .ok (.getfield 28, 3) := by decide +kernel
theorem dX9_set_9 : decode cX9_set 9 = .ok (.if_icmp .ge 29, 3) := by decide +kernel
theorem dX9_set_12 : decode cX9_set 12 = .ok (.iload_n 2, 1) := by decide +kernel
theorem dX9_set_13 : decode cX9_set 13 = .ok (.ifCond .lt 25, 3) := by decide +kernel
theorem dX9_set_16 : decode cX9_set 16 = .ok (.iload_n 2, 1) := by decide +kernel
theorem dX9_set_17 : decode cX9_set 17 = .ok (.aload_n 0, 1) := by decide +kernel
theorem dX9_set_18 : decode cX9_set 18 = .ok (.getfield 21, 3) := by decide +kernel
theorem dX9_set_21 : decode cX9_set 21 = .ok (.if_icmp .ge 17, 3) := by decide +kernel
theorem dX9_set_24 : decode cX9_set 24 = .ok (.aload_n 0, 1) := by decide +kernel
theorem dX9_set_25 : decode cX9_set 25 = .ok (.getfield 24, 3) := by decide +kernel
theorem dX9_set_28 : decode cX9_set 28 = .ok (.iload_n 1, 1) := by decide +kernel
theorem dX9_set_29 : decode cX9_set 29 = .ok (.aload_n 0, 1) := by decide +kernel
theorem dX9_set_30 : decode cX9_set 30 = .ok (.getfield 21, 3) := by decide +kernel
theorem dX9_set_33 : decode cX9_set 33 = .ok (.imul, 1) := by decide +kernel
theorem dX9_set_34 : decode cX9_set 34 = .ok (.iload_n 2, 1) := by decide +kernel
theorem dX9_set_35 : decode cX9_set 35 = .ok (.iadd, 1) := by decide +kernel
theorem dX9_set_36 : decode cX9_set 36 = .ok (.iload_n 3, 1) := by decide +kernel
theorem dX9_set_37 : decode cX9_set 37 = .ok (.iastore, 1) := by decide +kernel
theorem dX9_set_38 : decode cX9_set 38 = .ok (.return_, 1) := by decide +kernel
theorem dX9_add_0 : decode cX9_add 0 = .ok (.aload_n 0, 1) := by decide +kernel
theorem dX9_add_1 : decode cX9_add 1 = .ok (.invokevirtual 31, 3) := by decide +kernel
theorem dX9_add_4 : decode cX9_add 4 = .ok (.ifCond .ne 13, 3) := by decide +kernel
theorem dX9_add_7 : decode cX9_add 7 = .ok (.aload_n 0, 1) := by decide +kernel
theorem dX9_add_8 : decode cX9_add 8 = .ok (.dup, 1) := by decide +kernel
theorem dX9_add_9 : decode cX9_add 9 = .ok (.getfield 28, 3) := by decide +kernel
theorem dX9_add_12 : decode cX9_add 12 = .ok (.iconst 1, 1) := by decide +kernel
theorem dX9_add_13 : decode cX9_add 13 = .ok (.iadd, 1) := by decide +kernel
theorem dX9_add_14 : decode cX9_add 14 = .ok (.putfield 28, 3) := by decide +kernel
theorem dX9_add_17 : decode cX9_add 17 = .ok (.return_, 1) := by decide +kernel
theorem dX9_drop_0 : decode cX9_drop 0 = .ok (.aload_n 0, 1) := by decide +kernel
theorem dX9_drop_1 : decode cX9_drop 1 = .ok (.getfield 28, 3) := by decide +kernel
theorem dX9_drop_4 : decode cX9_drop 4 = .ok (.ifCond .le 13, 3) := by decide +kernel
theorem dX9_drop_7 : decode cX9_drop 7 = .ok (.aload_n 0, 1) := by decide +kernel
theorem dX9_drop_8 : decode cX9_drop 8 = .ok (.dup, 1) := by decide +kernel
theorem dX9_drop_9 : decode cX9_drop 9 = .ok (.getfield 28, 3) := by decide +kernel
theorem dX9_drop_12 : decode cX9_drop 12 = .ok (.iconst 1, 1) := by decide +kernel
theorem dX9_drop_13 : decode cX9_drop 13 = .ok (.isub, 1) := by decide +kernel
theorem dX9_drop_14 : decode cX9_drop 14 = .ok (.putfield 28, 3) := by decide +kernel
theorem dX9_drop_17 : decode cX9_drop 17 = .ok (.return_, 1) := by decide +kernel
theorem dX9_become_0 : decode cX9_become 0 = .ok (.aload_n 0, 1) := by decide +kernel
theorem dX9_become_1 : decode cX9_become 1 = .ok (.aload_n 1, 1) := by decide +kernel
theorem dX9_become_2 : decode cX9_become 2 = .ok (.getfield 28, 3) := by decide +kernel
theorem dX9_become_5 : decode cX9_become 5 = .ok (.putfield 28, 3) := by decide +kernel
theorem dX9_become_8 : decode cX9_become 8 = .ok (.aload_n 1, 1) := by decide +kernel
theorem dX9_become_9 : decode cX9_become 9 = .ok (.getfield 24, 3) := by decide +kernel
theorem dX9_become_12 : decode cX9_become 12 = .ok (.iconst 0, 1) := by decide +kernel
theorem dX9_become_13 : decode cX9_become 13 = .ok (.aload_n 0, 1) := by decide +kernel
theorem dX9_become_14 : decode cX9_become 14 = .ok (.getfield 24, 3) := by decide +kernel
theorem dX9_become_17 : decode cX9_become 17 = .ok (.iconst 0, 1) := by decide +kernel
theorem dX9_become_18 : decode cX9_become 18 = .ok (.aload_n 0, 1) := by decide +kernel
theorem dX9_become_19 : decode cX9_become 19 = .ok (.getfield 24, 3) := by decide +kernel
theorem dX9_become_22 : decode cX9_become 22 = .ok (.arraylength, 1) := by decide +kernel
theorem dX9_become_23 : decode cX9_become 23 = .ok (.aload_n 1, 1) := by decide +kernel
theorem dX9_become_24 : decode cX9_become 24 = .ok (.getfield 24, 3) := by decide +kernel
theorem dX9_become_27 : decode cX9_become 27 = .ok (.arraylength, 1) := by decide +kernel
theorem dX9_become_28 : decode cX9_become 28 = .ok (.invokestatic 35, 3) := by decide +kernel
theorem dX9_become_31 : decode cX9_become 31 = .ok (.invokestatic 38, 3) := by decide +kernel
theorem dX9_become_34 : decode cX9_become 34 = .ok (.return_, 1) := by decide +kernel
theorem dX10_init_0 : decode cX10_init 0 = .ok (.aload_n 0, 1) := by decide +kernel
theorem dX10_init_1 : decode cX10_init 1 = .ok (.invokespecial 3, 3) := by decide +kernel
theorem dX10_init_4 : decode cX10_init 4 = .ok (.aload_n 0, 1) := by decide +kernel
theorem dX10_init_5 : decode cX10_init 5 = .ok (.iconst 2, 1) := by decide +kernel
theorem dX10_init_6 : decode cX10_init 6 = .ok (.newarray .int, 2) := by decide +kernel
theorem dX10_init_8 : decode cX10_init 8 = .ok (.putfield 9, 3) := by decide +kernel
theorem dX10_init_11 : decode cX10_init 11 = .ok (.aload_n 0, 1) := by decide +kernel
theorem dX10_init_12 : decode cX10_init 12 = .ok (.new 15, 3) := by decide +kernel
theorem dX10_init_15 : decode cX10_init 15 = .ok (.dup, 1) := by decide +kernel
theorem dX10_init_16 : decode cX10_init 16 = .ok (.bipush 9, 2) := by decide +kernel
theorem dX10_init_18 : decode cX10_init 18 = .ok (.bipush 6, 2) := by decide +kernel
theorem dX10_init_20 : decode cX10_init 20 = .ok (.invokespecial 17, 3) := by decide +kernel
theorem dX10_init_23 : decode cX10_init 23 = .ok (.putfield 20, 3) := by decide +kernel
theorem dX10_init_26 : decode cX10_init 26 = .ok (.aload_n 0, 1) := by decide +kernel
theorem dX10_init_27 : decode cX10_init 27 = .ok (.new 15, 3) := by decide +kernel
theorem dX10_init_30 : decode cX10_init 30 = .ok (.dup, 1) := by decide +kernel
theorem dX10_init_31 : decode cX10_init 31 = .ok (.iconst 4, 1) := by decide +kernel
theorem dX10_init_32 : decode cX10_init 32 = .ok (.iconst 2, 1) := by decide +kernel
theorem dX10_init_33 : decode cX10_init 33 = .ok (.invokespecial 17, 3) := by decide +kernel
theorem dX10_init_36 : decode cX10_init 36 = .ok (.putfield 24, 3) := by decide +kernel
theorem dX10_init_39 : decode cX10_init 39 = .ok (.aload_n 0, 1) := by decide +kernel
theorem dX10_init_40 : decode cX10_init 40 = .ok (.new 15, 3) := by decide +kernel
theorem dX10_init_43 : decode cX10_init 43 = .ok (.dup, 1) := by decide +kernel
theorem dX10_init_44 : decode cX10_init 44 = .ok (.bipush 8, 2) := by decide +kernel
theorem dX10_init_46 : decode cX10_init 46 = .ok (.iconst 4, 1) := by decide +kernel
theorem dX10_init_47 : decode cX10_init 47 = .ok (.invokespecial 17, 3) := by decide +kernel
theorem dX10_init_50 : decode cX10_init 50 = .ok (.putfield 27, 3) := by decide +kernel
theorem dX10_init_53 : decode cX10_init 53 = .ok (.aload_n 0, 1) := by decide +kernel
theorem dX10_init_54 : decode cX10_init 54 = .ok (.new 15, 3) := by decide +kernel
theorem dX10_init_57 : decode cX10_init 57 = .ok (.dup, 1) := by decide +kernel
theorem dX10_init_58 : decode cX10_init 58 = .ok (.iconst 4, 1) := by decide +kernel
theorem dX10_init_59 : decode cX10_init 59 = .ok (.iconst 2, 1) := by decide +kernel
theorem dX10_init_60 : decode cX10_init 60 = .ok (.invokespecial 17, 3) := by decide +kernel
theorem dX10_init_63 : decode cX10_init 63 = .ok (.putfield 30, 3) := by decide +kernel
theorem dX10_init_66 : decode cX10_init 66 = .ok (.aload_n 0, 1) := by decide +kernel
theorem dX10_init_67 : decode cX10_init 67 = .ok (.new 15, 3) := by decide +kernel
theorem dX10_init_70 : decode cX10_init 70 = .ok (.dup, 1) := by decide +kernel
theorem dX10_init_71 : decode cX10_init 71 = .ok (.iconst 5, 1) := by decide +kernel
theorem dX10_init_72 : decode cX10_init 72 = .ok (.iconst 1, 1) := by decide +kernel
theorem dX10_init_73 : decode cX10_init 73 = .ok (.invokespecial 17, 3) := by decide +kernel
theorem dX10_init_76 : decode cX10_init 76 = .ok (.putfield 33, 3) := by decide +kernel
theorem dX10_init_79 : decode cX10_init 79 = .ok (.aload_n 0, 1) := by decide +kernel
theorem dX10_init_80 : decode cX10_init 80 = .ok (.new 15, 3) := by decide +kernel
theorem dX10_init_83 : decode cX10_init 83 = .ok (.dup, 1) := by decide +kernel
theorem dX10_init_84 : decode cX10_init 84 = .ok (.bipush 60, 2) := by decide +kernel
theorem dX10_init_86 : decode cX10_init 86 = .ok (.iconst 3, 1) := by decide +kernel
theorem dX10_init_87 : decode cX10_init 87 = .ok (.invokespecial 17, 3) := by decide +kernel
theorem dX10_init_90 : decode cX10_init 90 = .ok (.putfield 36, 3) := by decide +kernel
theorem dX10_init_93 : decode cX10_init 93 = .ok (.return_, 1) := by decide +kernel
theorem dX10_isIn_0 : decode cX10_isIn 0 = .ok (.iload_n 0, 1) := by decide +kernel
theorem dX10_isIn_1 : decode cX10_isIn 1 = .ok (.iload_n 1, 1) := by decide +kernel
theorem dX10_isIn_2 : decode cX10_isIn 2 = .ok (.ishr, 1) := by decide +kernel
theorem dX10_isIn_3 : decode cX10_isIn 3 = .ok (.iconst 1, 1) := by decide +kernel
theorem dX10_isIn_4 : decode cX10_isIn 4 = .ok (.iand, 1) := by decide +kernel
theorem dX10_isIn_5 : decode cX10_isIn 5 = .ok (.ifCond .eq 7, 3) := by decide +kernel
theorem dX10_isIn_8 : decode cX10_isIn 8 = .ok (.iconst 1, 1) := by decide +kernel
theorem dX10_isIn_9 : decode cX10_isIn 9 = .ok (.goto 4, 3) := by decide +kernel
theorem dX10_isIn_12 : decode cX10_isIn 12 = .ok (.iconst 0, 1) := by decide +kernel
theorem dX10_isIn_13 : decode cX10_isIn 13 = .ok (.ireturn, 1) := by decide +kernel
theorem dX10_spread_0 : decode cX10_spread 0 = .ok (.iconst 1, 1) := by decide +kernel
theorem dX10_spread_1 : decode cX10_spread 1 = .ok (.iload_n 1, 1) := by decide +kernel
theorem dX10_spread_2 : decode cX10_spread 2 = .ok (.ishl, 1) := by decide +kernel
theorem dX10_spread_3 : decode cX10_spread 3 = .ok (.istore_n 3, 1) := by decide +kernel
theorem dX10_spread_4 : decode cX10_spread 4 = .ok (.iconst 0, 1) := by decide +kernel
theorem dX10_spread_5 : decode cX10_spread 5 = .ok (.istore 4, 2) := by decide +kernel
theorem dX10_spread_7 : decode cX10_spread 7 = .ok (.iload 4, 2) := by decide +kernel
theorem dX10_spread_9 : decode cX10_spread 9 = .ok (.iload_n 3, 1) := by decide +kernel
theorem dX10_spread_10 : decode cX10_spread 10 = .ok (.if_icmp .ge 30, 3) := by decide +kernel
theorem dX10_spread_13 : decode cX10_spread 13 = .ok (.iload 4, 2) := by decide +kernel
theorem dX10_spread_15 : decode cX10_spread 15 = .ok (.iload_n 3, 1) := by decide +kernel
theorem dX10_spread_16 : decode cX10_spread 16 = .ok (.ior, 1) := by decide +kernel
theorem dX10_spread_17 : decode cX10_spread 17 = .ok (.aload_n 0, 1) := by decide +kernel
theorem dX10_spread_18 : decode cX10_spread 18 = .ok (.arraylength, 1) := by decide +kernel
theorem dX10_spread_19 : decode cX10_spread 19 = .ok (.if_icmp .ge 21, 3) := by decide +kernel
theorem dX10_spread_22 : decode cX10_spread 22 = .ok (.aload_n 0, 1) := by decide +kernel
theorem dX10_spread_23 : decode cX10_spread 23 = .ok (.iload 4, 2) := by decide +kernel
theorem dX10_spread_25 : decode cX10_spread 25 = .ok (.iload_n 3, 1) := by decide +kernel
theorem dX10_spread_26 : decode cX10_spread 26 = .ok (.ior, 1) := by decide +kernel
theorem dX10_spread_27 : decode cX10_spread 27 = .ok (.aload_n 0, 1) := by decide +kernel
theorem dX10_spread_28 : decode cX10_spread 28 = .ok (.iload 4, 2) := by decide +kernel
theorem dX10_spread_30 : decode cX10_spread 30 = .ok (.iaload, 1) := by decide +kernel
theorem dX10_spread_31 : decode cX10_spread 31 = .ok (.iload_n 2, 1) := by decide +kernel
theorem dX10_spread_32 : decode cX10_spread 32 = .ok (.iadd, 1) := by decide +kernel
theorem dX10_spread_33 : decode cX10_spread 33 = .ok (.iastore, 1) := by decide +kernel
theorem dX10_spread_34 : decode cX10_spread 34 = .ok (.iinc 4 1, 3) := by decide +kernel
theorem dX10_spread_37 : decode cX10_spread 37 = .ok (.goto (-30), 3) := by decide +kernel
theorem dX10_spread_40 : decode cX10_spread 40 = .ok (.return_, 1) := by decide +kernel
theorem dX10_mostTold_0 : decode cX10_mostTold 0 = .ok (.iload_n 0, 1) := by decide +kernel
theorem dX10_mostTold_1 : decode cX10_mostTold 1 = .ok (.ifCond .lt 19, 3) := by decide +kernel
theorem dX10_mostTold_4 : decode cX10_mostTold 4 = .ok (.iload_n 0, 1) := by decide +kernel
theorem dX10_mostTold_5 : decode cX10_mostTold 5 = .ok (.getstatic 39, 3) := by decide +kernel
theorem dX10_mostTold_8 : decode cX10_mostTold 8 = .ok (.arraylength, 1) := by decide +kernel
theorem dX10_mostTold_9 : decode cX10_mostTold 9 = .ok (.if_icmp .ge 11, 3) := by decide +kernel
theorem dX10_mostTold_12 : decode cX10_mostTold 12 = .ok (.getstatic 39, 3) := by decide +kernel
theorem dX10_mostTold_15 : decode cX10_mostTold 15 = .ok (.iload_n 0, 1) := by decide +kernel
theorem dX10_mostTold_16 : decode cX10_mostTold 16 = .ok (.iaload, 1) := by decide +kernel
theorem dX10_mostTold_17 : decode cX10_mostTold 17 = .ok (.goto 4, 3) := by decide +kernel
theorem dX10_mostTold_20 : decode cX10_mostTold 20 = .ok (.iconst (-1), 1) := by decide +kernel
theorem dX10_mostTold_21 : decode cX10_mostTold 21 = .ok (.ireturn, 1) := by decide +kernel
theorem dX10_clear_0 : decode cX10_clear 0 = .ok (.aload_n 0, 1) := by decide +kernel
theorem dX10_clear_1 : decode cX10_clear 1 = .ok (.iconst 0, 1) := by decide +kernel
theorem dX10_clear_2 : decode cX10_clear 2 = .ok (.putfield 42, 3) := by decide +kernel
theorem dX10_clear_5 : decode cX10_clear 5 = .ok (.aload_n 0, 1) := by decide +kernel
theorem dX10_clear_6 : decode cX10_clear 6 = .ok (.iconst 0, 1) := by decide +kernel
theorem dX10_clear_7 : decode cX10_clear 7 = .ok (.putfield 46, 3) := by decide +kernel
theorem dX10_clear_10 : decode cX10_clear 10 = .ok (.aload_n 0, 1) := by decide +kernel
theorem dX10_clear_11 : decode cX10_clear 11 = .ok (.iconst 0, 1) := by decide +kernel
theorem dX10_clear_12 : decode cX10_clear 12 = .ok (.putfield 49, 3) := by decide +kernel
theorem dX10_clear_15 : decode cX10_clear 15 = .ok (.aload_n 0, 1) := by decide +kernel
theorem dX10_clear_16 : decode cX10_clear 16 = .ok (.iconst 0, 1) := by decide +kernel
theorem dX10_clear_17 : decode cX10_clear 17 = .ok (.putfield 52, 3) := by decide +kernel
theorem dX10_clear_20 : decode cX10_clear 20 = .ok (.aload_n 0, 1) := by decide +kernel
theorem dX10_clear_21 : decode cX10_clear 21 = .ok (.iconst 0, 1) := by decide +kernel
theorem dX10_clear_22 : decode cX10_clear 22 = .ok (.putfield 55, 3) := by decide +kernel
theorem dX10_clear_25 : decode cX10_clear 25 = .ok (.aload_n 0, 1) := by decide +kernel
theorem dX10_clear_26 : decode cX10_clear 26 = .ok (.getfield 9, 3) := by decide +kernel
theorem dX10_clear_29 : decode cX10_clear 29 = .ok (.iconst 0, 1) := by decide +kernel
theorem dX10_clear_30 : decode cX10_clear 30 = .ok (.iconst 0, 1) := by decide +kernel
theorem dX10_clear_31 : decode cX10_clear 31 = .ok (.iastore, 1) := by decide +kernel
theorem dX10_clear_32 : decode cX10_clear 32 = .ok (.aload_n 0, 1) := by decide +kernel
theorem dX10_clear_33 : decode cX10_clear 33 = .ok (.getfield 9, 3) := by decide +kernel
theorem dX10_clear_36 : decode cX10_clear 36 = .ok (.iconst 1, 1) := by decide +kernel
theorem dX10_clear_37 : decode cX10_clear 37 = .ok (.iconst 0, 1) := by decide +kernel
theorem dX10_clear_38 : decode cX10_clear 38 = .ok (.iastore, 1) := by decide +kernel
theorem dX10_clear_39 : decode cX10_clear 39 = .ok (.aload_n 0, 1) := by decide +kernel
theorem dX10_clear_40 : decode cX10_clear 40 = .ok (.getfield 20, 3) := by decide +kernel
theorem dX10_clear_43 : decode cX10_clear 43 = .ok (.iconst 0, 1) := by decide +kernel
theorem dX10_clear_44 : decode cX10_clear 44 = .ok (.putfield 58, 3) := by decide +kernel
theorem dX10_clear_47 : decode cX10_clear 47 = .ok (.aload_n 0, 1) := by decide +kernel
theorem dX10_clear_48 : decode cX10_clear 48 = .ok (.getfield 24, 3) := by decide +kernel
theorem dX10_clear_51 : decode cX10_clear 51 = .ok (.iconst 0, 1) := by decide +kernel
theorem dX10_clear_52 : decode cX10_clear 52 = .ok (.putfield 58, 3) := by decide +kernel
theorem dX10_clear_55 : decode cX10_clear 55 = .ok (.aload_n 0, 1) := by decide +kernel
theorem dX10_clear_56 : decode cX10_clear 56 = .ok (.getfield 27, 3) := by decide +kernel
theorem dX10_clear_59 : decode cX10_clear 59 = .ok (.iconst 0, 1) := by decide +kernel
theorem dX10_clear_60 : decode cX10_clear 60 = .ok (.putfield 58, 3) := by decide +kernel
theorem dX10_clear_63 : decode cX10_clear 63 = .ok (.aload_n 0, 1) := by decide +kernel
theorem dX10_clear_64 : decode cX10_clear 64 = .ok (.getfield 30, 3) := by decide +kernel
theorem dX10_clear_67 : decode cX10_clear 67 = .ok (.iconst 0, 1) := by decide +kernel
theorem dX10_clear_68 : decode cX10_clear 68 = .ok (.putfield 58, 3) := by decide +kernel
theorem dX10_clear_71 : decode cX10_clear 71 = .ok (.aload_n 0, 1) := by decide +kernel
theorem dX10_clear_72 : decode cX10_clear 72 = .ok (.getfield 33, 3) := by decide +kernel
theorem dX10_clear_75 : decode cX10_clear 75 = .ok (.iconst 0, 1) := by decide +kernel
theorem dX10_clear_76 : decode cX10_clear 76 = .ok (.putfield 58, 3) := by decide +kernel
theorem dX10_clear_79 : decode cX10_clear 79 = .ok (.aload_n 0, 1) := by decide +kernel
theorem dX10_clear_80 : decode cX10_clear 80 = .ok (.getfield 36, 3) := by decide +kernel
theorem dX10_clear_83 : decode cX10_clear 83 = .ok (.iconst 0, 1) := by decide +kernel
theorem dX10_clear_84 : decode cX10_clear 84 = .ok (.putfield 58, 3) := by decide +kernel
theorem dX10_clear_87 : decode cX10_clear 87 = .ok (.return_, 1) := by decide +kernel
theorem dX10_become_0 : decode cX10_become 0 = .ok (.aload_n 0, 1) := by decide +kernel
theorem dX10_become_1 : decode cX10_become 1 = .ok (.aload_n 1, 1) := by decide +kernel
theorem dX10_become_2 : decode cX10_become 2 = .ok (.getfield 42, 3) := by decide +kernel
theorem dX10_become_5 : decode cX10_become 5 = .ok (.putfield 42, 3) := by decide +kernel
theorem dX10_become_8 : decode cX10_become 8 = .ok (.aload_n 0, 1) := by decide +kernel
theorem dX10_become_9 : decode cX10_become 9 = .ok (.aload_n 1, 1) := by decide +kernel
theorem dX10_become_10 : decode cX10_become 10 = .ok (.getfield 46, 3) := by decide +kernel
theorem dX10_become_13 : decode cX10_become 13 = .ok (.putfield 46, 3) := by decide +kernel
theorem dX10_become_16 : decode cX10_become 16 = .ok (.aload_n 0, 1) := by decide +kernel
theorem dX10_become_17 : decode cX10_become 17 = .ok (.aload_n 1, 1) := by decide +kernel
theorem dX10_become_18 : decode cX10_become 18 = .ok (.getfield 49, 3) := by decide +kernel
theorem dX10_become_21 : decode cX10_become 21 = .ok (.putfield 49, 3) := by decide +kernel
theorem dX10_become_24 : decode cX10_become 24 = .ok (.aload_n 0, 1) := by decide +kernel
theorem dX10_become_25 : decode cX10_become 25 = .ok (.aload_n 1, 1) := by decide +kernel
theorem dX10_become_26 : decode cX10_become 26 = .ok (.getfield 52, 3) := by decide +kernel
theorem dX10_become_29 : decode cX10_become 29 = .ok (.putfield 52, 3) := by decide +kernel
theorem dX10_become_32 : decode cX10_become 32 = .ok (.aload_n 0, 1) := by decide +kernel
theorem dX10_become_33 : decode cX10_become 33 = .ok (.aload_n 1, 1) := by decide +kernel
theorem dX10_become_34 : decode cX10_become 34 = .ok (.getfield 55, 3) := by decide +kernel
theorem dX10_become_37 : decode cX10_become 37 = .ok (.putfield 55, 3) := by decide +kernel
theorem dX10_become_40 : decode cX10_become 40 = .ok (.aload_n 0, 1) := by decide +kernel
theorem dX10_become_41 : decode cX10_become 41 = .ok (.getfield 9, 3) := by decide +kernel
theorem dX10_become_44 : decode cX10_become 44 = .ok (.iconst 0, 1) := by decide +kernel
theorem dX10_become_45 : decode cX10_become 45 = .ok (.aload_n 1, 1) := by decide +kernel
theorem dX10_become_46 : decode cX10_become 46 = .ok (.getfield 9, 3) := by decide +kernel
theorem dX10_become_49 : decode cX10_become 49 = .ok (.iconst 0, 1) := by decide +kernel
theorem dX10_become_50 : decode cX10_become 50 = .ok (.iaload, 1) := by decide +kernel
theorem dX10_become_51 : decode cX10_become 51 = .ok (.iastore, 1) := by decide +kernel
theorem dX10_become_52 : decode cX10_become 52 = .ok (.aload_n 0, 1) := by decide +kernel
theorem dX10_become_53 : decode cX10_become 53 = .ok (.getfield 9, 3) := by decide +kernel
theorem dX10_become_56 : decode cX10_become 56 = .ok (.iconst 1, 1) := by decide +kernel
theorem dX10_become_57 : decode cX10_become 57 = .ok (.aload_n 1, 1) := by decide +kernel
theorem dX10_become_58 : decode cX10_become 58 = .ok (.getfield 9, 3) := by decide +kernel
theorem dX10_become_61 : decode cX10_become 61 = .ok (.iconst 1, 1) := by decide +kernel
theorem dX10_become_62 : decode cX10_become 62 = .ok (.iaload, 1) := by decide +kernel
theorem dX10_become_63 : decode cX10_become 63 = .ok (.iastore, 1) := by decide +kernel
theorem dX10_become_64 : decode cX10_become 64 = .ok (.aload_n 0, 1) := by decide +kernel
theorem dX10_become_65 : decode cX10_become 65 = .ok (.getfield 20, 3) := by decide +kernel
theorem dX10_become_68 : decode cX10_become 68 = .ok (.aload_n 1, 1) := by decide +kernel
theorem dX10_become_69 : decode cX10_become 69 = .ok (.getfield 20, 3) := by decide +kernel
theorem dX10_become_72 : decode cX10_become 72 = .ok (.invokevirtual 61, 3) := by decide +kernel
theorem dX10_become_75 : decode cX10_become 75 = .ok (.aload_n 0, 1) := by decide +kernel
theorem dX10_become_76 : decode cX10_become 76 = .ok (.getfield 24, 3) := by decide +kernel
theorem dX10_become_79 : decode cX10_become 79 = .ok (.aload_n 1, 1) := by decide +kernel
theorem dX10_become_80 : decode cX10_become 80 = .ok (.getfield 24, 3) := by decide +kernel
theorem dX10_become_83 : decode cX10_become 83 = .ok (.invokevirtual 61, 3) := by decide +kernel
theorem dX10_become_86 : decode cX10_become 86 = .ok (.aload_n 0, 1) := by decide +kernel
theorem dX10_become_87 : decode cX10_become 87 = .ok (.getfield 27, 3) := by decide +kernel
theorem dX10_become_90 : decode cX10_become 90 = .ok (.aload_n 1, 1) := by decide +kernel
theorem dX10_become_91 : decode cX10_become 91 = .ok (.getfield 27, 3) := by decide +kernel
theorem dX10_become_94 : decode cX10_become 94 = .ok (.invokevirtual 61, 3) := by decide +kernel
theorem dX10_become_97 : decode cX10_become 97 = .ok (.aload_n 0, 1) := by decide +kernel
theorem dX10_become_98 : decode cX10_become 98 = .ok (.getfield 30, 3) := by decide +kernel
theorem dX10_become_101 : decode cX10_become 101 = .ok (.aload_n 1, 1) := by decide +kernel
theorem dX10_become_102 : decode cX10_become 102 = .ok (.getfield 30, 3) := by decide +kernel
theorem dX10_become_105 : decode cX10_become 105 = .ok (.invokevirtual 61, 3) := by decide +kernel
theorem dX10_become_108 : decode cX10_become 108 = .ok (.aload_n 0, 1) := by decide +kernel
theorem dX10_become_109 : decode cX10_become 109 = .ok (.getfield 33, 3) := by decide +kernel
theorem dX10_become_112 : decode cX10_become 112 = .ok (.aload_n 1, 1) := by decide +kernel
theorem dX10_become_113 : decode cX10_become 113 = .ok (.getfield 33, 3) := by decide +kernel
theorem dX10_become_116 : decode cX10_become 116 = .ok (.invokevirtual 61, 3) := by decide +kernel
theorem dX10_become_119 : decode cX10_become 119 = .ok (.aload_n 0, 1) := by decide +kernel
theorem dX10_become_120 : decode cX10_become 120 = .ok (.getfield 36, 3) := by decide +kernel
theorem dX10_become_123 : decode cX10_become 123 = .ok (.aload_n 1, 1) := by decide +kernel
theorem dX10_become_124 : decode cX10_become 124 = .ok (.getfield 36, 3) := by decide +kernel
theorem dX10_become_127 : decode cX10_become 127 = .ok (.invokevirtual 61, 3) := by decide +kernel
theorem dX10_become_130 : decode cX10_become 130 = .ok (.return_, 1) := by decide +kernel
theorem dX10_isTold_0 : decode cX10_isTold 0 = .ok (.aload_n 0, 1) := by decide +kernel
theorem dX10_isTold_1 : decode cX10_isTold 1 = .ok (.getfield 42, 3) := by decide +kernel
theorem dX10_isTold_4 : decode cX10_isTold 4 = .ok (.ifCond .le 7, 3) := by decide +kernel
theorem dX10_isTold_7 : decode cX10_isTold 7 = .ok (.iconst 1, 1) := by decide +kernel
theorem dX10_isTold_8 : decode cX10_isTold 8 = .ok (.goto 4, 3) := by decide +kernel
theorem dX10_isTold_11 : decode cX10_isTold 11 = .ok (.iconst 0, 1) := by decide +kernel
theorem dX10_isTold_12 : decode cX10_isTold 12 = .ok (.ireturn, 1) := by decide +kernel
theorem dX10_hasSide_0 : decode cX10_hasSide 0 = .ok (.aload_n 0, 1) := by decide +kernel
theorem dX10_hasSide_1 : decode cX10_hasSide 1 = .ok (.invokevirtual 65, 3) := by decide +kernel
theorem dX10_hasSide_4 : decode cX10_hasSide 4 = .ok (.ifCond .eq 16, 3) := by decide +kernel
theorem dX10_hasSide_7 : decode cX10_hasSide 7 = .ok (.iload_n 1, 1) := by decide +kernel
theorem dX10_hasSide_8 : decode cX10_hasSide 8 = .ok (.ifCond .eq 8, 3) := by decide +kernel
theorem dX10_hasSide_11 : decode cX10_hasSide 11 = .ok (.iload_n 1, 1) := by decide +kernel
theorem dX10_hasSide_12 : decode cX10_hasSide 12 = .ok (.iconst 1, 1) := by decide +kernel
theorem dX10_hasSide_13 : decode cX10_hasSide 13 = .ok (.if_icmp .ne 7, 3) := by decide +kernel
theorem dX10_hasSide_16 : decode cX10_hasSide 16 = .ok (.iconst 1, 1) := by decide +kernel
theorem dX10_hasSide_17 : decode cX10_hasSide 17 = .ok (.goto 4, 3) := by decide +kernel
theorem dX10_hasSide_20 : decode cX10_hasSide 20 = .ok (.iconst 0, 1) := by decide +kernel
theorem dX10_hasSide_21 : decode cX10_hasSide 21 = .ok (.ireturn, 1) := by decide +kernel
theorem dX10_hasTrain_0 : decode cX10_hasTrain 0 = .ok (.aload_n 0, 1) := by decide +kernel
theorem dX10_hasTrain_1 : decode cX10_hasTrain 1 = .ok (.invokevirtual 65, 3) := by decide +kernel
theorem dX10_hasTrain_4 : decode cX10_hasTrain 4 = .ok (.ifCond .eq 22, 3) := by decide +kernel
theorem dX10_hasTrain_7 : decode cX10_hasTrain 7 = .ok (.iload_n 1, 1) := by decide +kernel
theorem dX10_hasTrain_8 : decode cX10_hasTrain 8 = .ok (.ifCond .lt 18, 3) := by decide +kernel
theorem dX10_hasTrain_11 : decode cX10_hasTrain 11 = .ok (.iload_n 1, 1) := by decide +kernel
theorem dX10_hasTrain_12 : decode cX10_hasTrain 12 = .ok (.aload_n 0, 1) := by decide +kernel
theorem dX10_hasTrain_13 : decode cX10_hasTrain 13 = .ok (.getfield 20, 3) := by decide +kernel
theorem dX10_hasTrain_16 : decode cX10_hasTrain 16 = .ok (.getfield 58, 3) := by decide +kernel
theorem dX10_hasTrain_19 : decode cX10_hasTrain 19 = .ok (.if_icmp .ge 7, 3) := by decide +kernel
theorem dX10_hasTrain_22 : decode cX10_hasTrain 22 = .ok (.iconst 1, 1) := by decide +kernel
theorem dX10_hasTrain_23 : decode cX10_hasTrain 23 = .ok (.goto 4, 3) := by decide +kernel
theorem dX10_hasTrain_26 : decode cX10_hasTrain 26 = .ok (.iconst 0, 1) := by decide +kernel
theorem dX10_hasTrain_27 : decode cX10_hasTrain 27 = .ok (.ireturn, 1) := by decide +kernel
theorem dX10_hasSet_0 : decode cX10_hasSet 0 = .ok (.aload_n 0, 1) := by decide +kernel
theorem dX10_hasSet_1 : decode cX10_hasSet 1 = .ok (.invokevirtual 65, 3) := by decide +kernel
theorem dX10_hasSet_4 : decode cX10_hasSet 4 = .ok (.ifCond .eq 19, 3) := by decide +kernel
theorem dX10_hasSet_7 : decode cX10_hasSet 7 = .ok (.iload_n 1, 1) := by decide +kernel
theorem dX10_hasSet_8 : decode cX10_hasSet 8 = .ok (.ifCond .lt 15, 3) := by decide +kernel
theorem dX10_hasSet_11 : decode cX10_hasSet 11 = .ok (.iload_n 1, 1) := by decide +kernel
theorem dX10_hasSet_12 : decode cX10_hasSet 12 = .ok (.aload_n 0, 1) := by decide +kernel
theorem dX10_hasSet_13 : decode cX10_hasSet 13 = .ok (.invokevirtual 69, 3) := by decide +kernel
theorem dX10_hasSet_16 : decode cX10_hasSet 16 = .ok (.if_icmp .ge 7, 3) := by decide +kernel
theorem dX10_hasSet_19 : decode cX10_hasSet 19 = .ok (.iconst 1, 1) := by decide +kernel
theorem dX10_hasSet_20 : decode cX10_hasSet 20 = .ok (.goto 4, 3) := by decide +kernel
theorem dX10_hasSet_23 : decode cX10_hasSet 23 = .ok (.iconst 0, 1) := by decide +kernel
theorem dX10_hasSet_24 : decode cX10_hasSet 24 = .ok (.ireturn, 1) := by decide +kernel
theorem dX10_sets_0 : decode cX10_sets 0 = .ok (.iconst 1, 1) := by decide +kernel
theorem dX10_sets_1 : decode cX10_sets 1 = .ok (.aload_n 0, 1) := by decide +kernel
theorem dX10_sets_2 : decode cX10_sets 2 = .ok (.getfield 20, 3) := by decide +kernel
theorem dX10_sets_5 : decode cX10_sets 5 = .ok (.getfield 58, 3) := by decide +kernel
theorem dX10_sets_8 : decode cX10_sets 8 = .ok (.ishl, 1) := by decide +kernel
theorem dX10_sets_9 : decode cX10_sets 9 = .ok (.sipush 512, 3) := by decide +kernel
theorem dX10_sets_12 : decode cX10_sets 12 = .ok (.invokestatic 73, 3) := by decide +kernel
theorem dX10_sets_15 : decode cX10_sets 15 = .ok (.ireturn, 1) := by decide +kernel
theorem dX10_needOf_0 : decode cX10_needOf 0 = .ok (.iload_n 1, 1) := by decide +kernel
theorem dX10_needOf_1 : decode cX10_needOf 1 = .ok (.ifCond .eq 8, 3) := by decide +kernel
theorem dX10_needOf_4 : decode cX10_needOf 4 = .ok (.iload_n 1, 1) := by decide +kernel
theorem dX10_needOf_5 : decode cX10_needOf 5 = .ok (.iconst 1, 1) := by decide +kernel
theorem dX10_needOf_6 : decode cX10_needOf 6 = .ok (.if_icmp .ne 12, 3) := by decide +kernel
theorem dX10_needOf_9 : decode cX10_needOf 9 = .ok (.aload_n 0, 1) := by decide +kernel
theorem dX10_needOf_10 : decode cX10_needOf 10 = .ok (.getfield 9, 3) := by decide +kernel
theorem dX10_needOf_13 : decode cX10_needOf 13 = .ok (.iload_n 1, 1) := by decide +kernel
theorem dX10_needOf_14 : decode cX10_needOf 14 = .ok (.iaload, 1) := by decide +kernel
theorem dX10_needOf_15 : decode cX10_needOf 15 = .ok (.goto 4, 3) := by decide +kernel
theorem dX10_needOf_18 : decode cX10_needOf 18 = .ok (.iconst 0, 1) := by decide +kernel
theorem dX10_needOf_19 : decode cX10_needOf 19 = .ok (.ireturn, 1) := by decide +kernel
theorem dX10_setNeed_0 : decode cX10_setNeed 0 = .ok (.iload_n 1, 1) := by decide +kernel
theorem dX10_setNeed_1 : decode cX10_setNeed 1 = .ok (.ifCond .eq 8, 3) := by decide +kernel
theorem dX10_setNeed_4 : decode cX10_setNeed 4 = .ok (.iload_n 1, 1) := by decide +kernel
theorem dX10_setNeed_5 : decode cX10_setNeed 5 = .ok (.iconst 1, 1) := by decide +kernel
theorem dX10_setNeed_6 : decode cX10_setNeed 6 = .ok (.if_icmp .ne 10, 3) := by decide +kernel
theorem dX10_setNeed_9 : decode cX10_setNeed 9 = .ok (.aload_n 0, 1) := by decide +kernel
theorem dX10_setNeed_10 : decode cX10_setNeed 10 = .ok (.getfield 9, 3) := by decide +kernel
theorem dX10_setNeed_13 : decode cX10_setNeed 13 = .ok (.iload_n 1, 1) := by decide +kernel
theorem dX10_setNeed_14 : decode cX10_setNeed 14 = .ok (.iload_n 2, 1) := by decide +kernel
theorem dX10_setNeed_15 : decode cX10_setNeed 15 = .ok (.iastore, 1) := by decide +kernel
theorem dX10_setNeed_16 : decode cX10_setNeed 16 = .ok (.return_, 1) := by decide +kernel
theorem dX10_trainsOf_0 : decode cX10_trainsOf 0 = .ok (.iconst 0, 1) := by decide +kernel
theorem dX10_trainsOf_1 : decode cX10_trainsOf 1 = .ok (.istore_n 2, 1) := by decide +kernel
theorem dX10_trainsOf_2 : decode cX10_trainsOf 2 = .ok (.iconst 0, 1) := by decide +kernel
theorem dX10_trainsOf_3 : decode cX10_trainsOf 3 = .ok (.istore_n 3, 1) := by decide +kernel
theorem dX10_trainsOf_4 : decode cX10_trainsOf 4 = .ok (.iload_n 3, 1) := by decide +kernel
theorem dX10_trainsOf_5 : decode cX10_trainsOf 5 = .ok (.aload_n 0, 1) := by decide +kernel
theorem dX10_trainsOf_6 : decode cX10_trainsOf 6 = .ok (.getfield 20, 3) := by decide +kernel
theorem dX10_trainsOf_9 : decode cX10_trainsOf 9 = .ok (.getfield 58, 3) := by decide +kernel
theorem dX10_trainsOf_12 : decode cX10_trainsOf 12 = .ok (.if_icmp .ge 28, 3) := by decide +kernel
theorem dX10_trainsOf_15 : decode cX10_trainsOf 15 = .ok (.aload_n 0, 1) := by decide +kernel
theorem dX10_trainsOf_16 : decode cX10_trainsOf 16 = .ok (.getfield 20, 3) := by decide +kernel
theorem dX10_trainsOf_19 : decode cX10_trainsOf 19 = .ok (.iload_n 3, 1) := by decide +kernel
theorem dX10_trainsOf_20 : decode cX10_trainsOf 20 = .ok (.iconst 0, 1) := by decide +kernel
theorem dX10_trainsOf_21 : decode cX10_trainsOf 21 = .ok (.invokevirtual 79, 3) := by decide +kernel
theorem dX10_trainsOf_24 : decode cX10_trainsOf 24 = .ok (.iload_n 1, 1) := by decide +kernel
theorem dX10_trainsOf_25 : decode cX10_trainsOf 25 = .ok (.if_icmp .ne 9, 3) := by decide +kernel
theorem dX10_trainsOf_28 : decode cX10_trainsOf 28 = .ok (.iload_n 2, 1) := by decide +kernel
theorem dX10_trainsOf_29 : decode cX10_trainsOf 29 = .ok (.iconst 1, 1) := by decide +kernel
theorem dX10_trainsOf_30 : decode cX10_trainsOf 30 = .ok (.iload_n 3, 1) := by decide +kernel
theorem dX10_trainsOf_31 : decode cX10_trainsOf 31 = .ok (.ishl, 1) := by decide +kernel
theorem dX10_trainsOf_32 : decode cX10_trainsOf 32 = .ok (.ior, 1) := by decide +kernel
theorem dX10_trainsOf_33 : decode cX10_trainsOf 33 = .ok (.istore_n 2, 1) := by decide +kernel
theorem dX10_trainsOf_34 : decode cX10_trainsOf 34 = .ok (.iinc 3 1, 3) := by decide +kernel
theorem dX10_trainsOf_37 : decode cX10_trainsOf 37 = .ok (.goto (-33), 3) := by decide +kernel
theorem dX10_trainsOf_40 : decode cX10_trainsOf 40 = .ok (.iload_n 2, 1) := by decide +kernel
theorem dX10_trainsOf_41 : decode cX10_trainsOf 41 = .ok (.ireturn, 1) := by decide +kernel
theorem dX10_priceOf_0 : decode cX10_priceOf 0 = .ok (.iload_n 1, 1) := by decide +kernel
theorem dX10_priceOf_1 : decode cX10_priceOf 1 = .ok (.iconst (-1), 1) := by decide +kernel
theorem dX10_priceOf_2 : decode cX10_priceOf 2 = .ok (.if_icmp .ne 5, 3) := by decide +kernel
theorem dX10_priceOf_5 : decode cX10_priceOf 5 = .ok (.iconst (-1), 1) := by decide +kernel
theorem dX10_priceOf_6 : decode cX10_priceOf 6 = .ok (.ireturn, 1) := by decide +kernel
theorem dX10_priceOf_7 : decode cX10_priceOf 7 = .ok (.iconst 0, 1) := by decide +kernel
theorem dX10_priceOf_8 : decode cX10_priceOf 8 = .ok (.istore_n 2, 1) := by decide +kernel
theorem dX10_priceOf_9 : decode cX10_priceOf 9 = .ok (.iconst 0, 1) := by decide +kernel
theorem dX10_priceOf_10 : decode cX10_priceOf 10 = .ok (.istore_n 3, 1) := by decide +kernel
theorem dX10_priceOf_11 : decode cX10_priceOf 11 = .ok (.iload_n 3, 1) := by decide +kernel
theorem dX10_priceOf_12 : decode cX10_priceOf 12 = .ok (.aload_n 0, 1) := by decide +kernel
theorem dX10_priceOf_13 : decode cX10_priceOf 13 = .ok (.getfield 20, 3) := by decide +kernel
theorem dX10_priceOf_16 : decode cX10_priceOf 16 = .ok (.getfield 58, 3) := by decide +kernel
theorem dX10_priceOf_19 : decode cX10_priceOf 19 = .ok (.if_icmp .ge 29, 3) := by decide +kernel
theorem dX10_priceOf_22 : decode cX10_priceOf 22 = .ok (.iload_n 1, 1) := by decide +kernel
theorem dX10_priceOf_23 : decode cX10_priceOf 23 = .ok (.iload_n 3, 1) := by decide +kernel
theorem dX10_priceOf_24 : decode cX10_priceOf 24 = .ok (.invokestatic 82, 3) := by decide +kernel
theorem dX10_priceOf_27 : decode cX10_priceOf 27 = .ok (.ifCond .eq 15, 3) := by decide +kernel
theorem dX10_priceOf_30 : decode cX10_priceOf 30 = .ok (.iload_n 2, 1) := by decide +kernel
theorem dX10_priceOf_31 : decode cX10_priceOf 31 = .ok (.aload_n 0, 1) := by decide +kernel
theorem dX10_priceOf_32 : decode cX10_priceOf 32 = .ok (.getfield 20, 3) := by decide +kernel
theorem dX10_priceOf_35 : decode cX10_priceOf 35 = .ok (.iload_n 3, 1) := by decide +kernel
theorem dX10_priceOf_36 : decode cX10_priceOf 36 = .ok (.iconst 5, 1) := by decide +kernel
theorem dX10_priceOf_37 : decode cX10_priceOf 37 = .ok (.invokevirtual 79, 3) := by decide +kernel
theorem dX10_priceOf_40 : decode cX10_priceOf 40 = .ok (.iadd, 1) := by decide +kernel
theorem dX10_priceOf_41 : decode cX10_priceOf 41 = .ok (.istore_n 2, 1) := by decide +kernel
theorem dX10_priceOf_42 : decode cX10_priceOf 42 = .ok (.iinc 3 1, 3) := by decide +kernel
theorem dX10_priceOf_45 : decode cX10_priceOf 45 = .ok (.goto (-34), 3) := by decide +kernel
theorem dX10_priceOf_48 : decode cX10_priceOf 48 = .ok (.iload_n 2, 1) := by decide +kernel
theorem dX10_priceOf_49 : decode cX10_priceOf 49 = .ok (.ireturn, 1) := by decide +kernel
theorem dX10_arrival_0 : decode cX10_arrival 0 = .ok (.aload_n 0, 1) := by decide +kernel
theorem dX10_arrival_1 : decode cX10_arrival 1 = .ok (.getfield 20, 3) := by decide +kernel
theorem dX10_arrival_4 : decode cX10_arrival 4 = .ok (.iload_n 1, 1) := by decide +kernel
theorem dX10_arrival_5 : decode cX10_arrival 5 = .ok (.iconst 2, 1) := by decide +kernel
theorem dX10_arrival_6 : decode cX10_arrival 6 = .ok (.invokevirtual 79, 3) := by decide +kernel
theorem dX10_arrival_9 : decode cX10_arrival 9 = .ok (.iload_n 2, 1) := by decide +kernel
theorem dX10_arrival_10 : decode cX10_arrival 10 = .ok (.iload_n 1, 1) := by decide +kernel
theorem dX10_arrival_11 : decode cX10_arrival 11 = .ok (.invokestatic 82, 3) := by decide +kernel
theorem dX10_arrival_14 : decode cX10_arrival 14 = .ok (.ifCond .eq 15, 3) := by decide +kernel
theorem dX10_arrival_17 : decode cX10_arrival 17 = .ok (.aload_n 0, 1) := by decide +kernel
theorem dX10_arrival_18 : decode cX10_arrival 18 = .ok (.getfield 20, 3) := by decide +kernel
theorem dX10_arrival_21 : decode cX10_arrival 21 = .ok (.iload_n 1, 1) := by decide +kernel
theorem dX10_arrival_22 : decode cX10_arrival 22 = .ok (.iconst 4, 1) := by decide +kernel
theorem dX10_arrival_23 : decode cX10_arrival 23 = .ok (.invokevirtual 79, 3) := by decide +kernel
theorem dX10_arrival_26 : decode cX10_arrival 26 = .ok (.goto 4, 3) := by decide +kernel
theorem dX10_arrival_29 : decode cX10_arrival 29 = .ok (.iconst 0, 1) := by decide +kernel
theorem dX10_arrival_30 : decode cX10_arrival 30 = .ok (.iadd, 1) := by decide +kernel
theorem dX10_arrival_31 : decode cX10_arrival 31 = .ok (.ireturn, 1) := by decide +kernel
theorem dX10_comingIn_0 : decode cX10_comingIn 0 = .ok (.iconst 0, 1) := by decide +kernel
theorem dX10_comingIn_1 : decode cX10_comingIn 1 = .ok (.istore_n 3, 1) := by decide +kernel
theorem dX10_comingIn_2 : decode cX10_comingIn 2 = .ok (.iconst 0, 1) := by decide +kernel
theorem dX10_comingIn_3 : decode cX10_comingIn 3 = .ok (.istore 4, 2) := by decide +kernel
theorem dX10_comingIn_5 : decode cX10_comingIn 5 = .ok (.iload 4, 2) := by decide +kernel
theorem dX10_comingIn_7 : decode cX10_comingIn 7 = .ok (.aload_n 0, 1) := by decide +kernel
theorem dX10_comingIn_8 : decode cX10_comingIn 8 = .ok (.getfield 20, 3) := by decide +kernel
theorem dX10_comingIn_11 : decode cX10_comingIn 11 = .ok (.getfield 58, 3) := by decide +kernel
theorem dX10_comingIn_14 : decode cX10_comingIn 14 = .ok (.if_icmp .ge 27, 3) := by decide +kernel
theorem dX10_comingIn_17 : decode cX10_comingIn 17 = .ok (.aload_n 0, 1) := by decide +kernel
theorem dX10_comingIn_18 : decode cX10_comingIn 18 = .ok (.iload 4, 2) := by decide +kernel
theorem dX10_comingIn_20 : decode cX10_comingIn 20 = .ok (.iload_n 2, 1) := by decide +kernel
theorem dX10_comingIn_21 : decode cX10_comingIn 21 = .ok (.invokevirtual 86, 3) := by decide +kernel
theorem dX10_comingIn_24 : decode cX10_comingIn 24 = .ok (.iload_n 1, 1) := by decide +kernel
theorem dX10_comingIn_25 : decode cX10_comingIn 25 = .ok (.if_icmp .ne 10, 3) := by decide +kernel
theorem dX10_comingIn_28 : decode cX10_comingIn 28 = .ok (.iload_n 3, 1) := by decide +kernel
theorem dX10_comingIn_29 : decode cX10_comingIn 29 = .ok (.iconst 1, 1) := by decide +kernel
theorem dX10_comingIn_30 : decode cX10_comingIn 30 = .ok (.iload 4, 2) := by decide +kernel
theorem dX10_comingIn_32 : decode cX10_comingIn 32 = .ok (.ishl, 1) := by decide +kernel
theorem dX10_comingIn_33 : decode cX10_comingIn 33 = .ok (.ior, 1) := by decide +kernel
theorem dX10_comingIn_34 : decode cX10_comingIn 34 = .ok (.istore_n 3, 1) := by decide +kernel
theorem dX10_comingIn_35 : decode cX10_comingIn 35 = .ok (.iinc 4 1, 3) := by decide +kernel
theorem dX10_comingIn_38 : decode cX10_comingIn 38 = .ok (.goto (-33), 3) := by decide +kernel
theorem dX10_comingIn_41 : decode cX10_comingIn 41 = .ok (.iload_n 3, 1) := by decide +kernel
theorem dX10_comingIn_42 : decode cX10_comingIn 42 = .ok (.ireturn, 1) := by decide +kernel
theorem dX10_menThere_0 : decode cX10_menThere 0 = .ok (.iconst 0, 1) := by decide +kernel
theorem dX10_menThere_1 : decode cX10_menThere 1 = .ok (.istore 4, 2) := by decide +kernel
theorem dX10_menThere_3 : decode cX10_menThere 3 = .ok (.iconst 0, 1) := by decide +kernel
theorem dX10_menThere_4 : decode cX10_menThere 4 = .ok (.istore 5, 2) := by decide +kernel
theorem dX10_menThere_6 : decode cX10_menThere 6 = .ok (.iload 5, 2) := by decide +kernel
theorem dX10_menThere_8 : decode cX10_menThere 8 = .ok (.aload_n 0, 1) := by decide +kernel
theorem dX10_menThere_9 : decode cX10_menThere 9 = .ok (.getfield 20, 3) := by decide +kernel
theorem dX10_menThere_12 : decode cX10_menThere 12 = .ok (.getfield 58, 3) := by decide +kernel
theorem dX10_menThere_15 : decode cX10_menThere 15 = .ok (.if_icmp .ge 49, 3) := by decide +kernel
theorem dX10_menThere_18 : decode cX10_menThere 18 = .ok (.aload_n 0, 1) := by decide +kernel
theorem dX10_menThere_19 : decode cX10_menThere 19 = .ok (.getfield 20, 3) := by decide +kernel
theorem dX10_menThere_22 : decode cX10_menThere 22 = .ok (.iload 5, 2) := by decide +kernel
theorem dX10_menThere_24 : decode cX10_menThere 24 = .ok (.iconst 0, 1) := by decide +kernel
theorem dX10_menThere_25 : decode cX10_menThere 25 = .ok (.invokevirtual 79, 3) := by decide +kernel
theorem dX10_menThere_28 : decode cX10_menThere 28 = .ok (.iload_n 1, 1) := by decide +kernel
theorem dX10_menThere_29 : decode cX10_menThere 29 = .ok (.if_icmp .ne 29, 3) := by decide +kernel
theorem dX10_menThere_32 : decode cX10_menThere 32 = .ok (.aload_n 0, 1) := by decide +kernel
theorem dX10_menThere_33 : decode cX10_menThere 33 = .ok (.iload 5, 2) := by decide +kernel
theorem dX10_menThere_35 : decode cX10_menThere 35 = .ok (.iload_n 3, 1) := by decide +kernel
theorem dX10_menThere_36 : decode cX10_menThere 36 = .ok (.invokevirtual 86, 3) := by decide +kernel
theorem dX10_menThere_39 : decode cX10_menThere 39 = .ok (.iload_n 2, 1) := by decide +kernel
theorem dX10_menThere_40 : decode cX10_menThere 40 = .ok (.if_icmp .gt 18, 3) := by decide +kernel
theorem dX10_menThere_43 : decode cX10_menThere 43 = .ok (.iload 4, 2) := by decide +kernel
theorem dX10_menThere_45 : decode cX10_menThere 45 = .ok (.aload_n 0, 1) := by decide +kernel
theorem dX10_menThere_46 : decode cX10_menThere 46 = .ok (.getfield 20, 3) := by decide +kernel
theorem dX10_menThere_49 : decode cX10_menThere 49 = .ok (.iload 5, 2) := by decide +kernel
theorem dX10_menThere_51 : decode cX10_menThere 51 = .ok (.iconst 1, 1) := by decide +kernel
theorem dX10_menThere_52 : decode cX10_menThere 52 = .ok (.invokevirtual 79, 3) := by decide +kernel
theorem dX10_menThere_55 : decode cX10_menThere 55 = .ok (.iadd, 1) := by decide +kernel
theorem dX10_menThere_56 : decode cX10_menThere 56 = .ok (.istore 4, 2) := by decide +kernel
theorem dX10_menThere_58 : decode cX10_menThere 58 = .ok (.iinc 5 1, 3) := by decide +kernel
theorem dX10_menThere_61 : decode cX10_menThere 61 = .ok (.goto (-55), 3) := by decide +kernel
theorem dX10_menThere_64 : decode cX10_menThere 64 = .ok (.iload 4, 2) := by decide +kernel
theorem dX10_menThere_66 : decode cX10_menThere 66 = .ok (.ireturn, 1) := by decide +kernel
theorem dX10_menLost_0 : decode cX10_menLost 0 = .ok (.iload_n 2, 1) := by decide +kernel
theorem dX10_menLost_1 : decode cX10_menLost 1 = .ok (.aload_n 0, 1) := by decide +kernel
theorem dX10_menLost_2 : decode cX10_menLost 2 = .ok (.getfield 20, 3) := by decide +kernel
theorem dX10_menLost_5 : decode cX10_menLost 5 = .ok (.iload_n 1, 1) := by decide +kernel
theorem dX10_menLost_6 : decode cX10_menLost 6 = .ok (.iconst 2, 1) := by decide +kernel
theorem dX10_menLost_7 : decode cX10_menLost 7 = .ok (.invokevirtual 79, 3) := by decide +kernel
theorem dX10_menLost_10 : decode cX10_menLost 10 = .ok (.isub, 1) := by decide +kernel
theorem dX10_menLost_11 : decode cX10_menLost 11 = .ok (.istore_n 3, 1) := by decide +kernel
theorem dX10_menLost_12 : decode cX10_menLost 12 = .ok (.iload_n 3, 1) := by decide +kernel
theorem dX10_menLost_13 : decode cX10_menLost 13 = .ok (.ifCond .lt 28, 3) := by decide +kernel
theorem dX10_menLost_16 : decode cX10_menLost 16 = .ok (.iload_n 3, 1) := by decide +kernel
theorem dX10_menLost_17 : decode cX10_menLost 17 = .ok (.aload_n 0, 1) := by decide +kernel
theorem dX10_menLost_18 : decode cX10_menLost 18 = .ok (.getfield 20, 3) := by decide +kernel
theorem dX10_menLost_21 : decode cX10_menLost 21 = .ok (.iload_n 1, 1) := by decide +kernel
theorem dX10_menLost_22 : decode cX10_menLost 22 = .ok (.iconst 4, 1) := by decide +kernel
theorem dX10_menLost_23 : decode cX10_menLost 23 = .ok (.invokevirtual 79, 3) := by decide +kernel
theorem dX10_menLost_26 : decode cX10_menLost 26 = .ok (.if_icmp .ge 15, 3) := by decide +kernel
theorem dX10_menLost_29 : decode cX10_menLost 29 = .ok (.aload_n 0, 1) := by decide +kernel
theorem dX10_menLost_30 : decode cX10_menLost 30 = .ok (.getfield 20, 3) := by decide +kernel
theorem dX10_menLost_33 : decode cX10_menLost 33 = .ok (.iload_n 1, 1) := by decide +kernel
theorem dX10_menLost_34 : decode cX10_menLost 34 = .ok (.iconst 1, 1) := by decide +kernel
theorem dX10_menLost_35 : decode cX10_menLost 35 = .ok (.invokevirtual 79, 3) := by decide +kernel
theorem dX10_menLost_38 : decode cX10_menLost 38 = .ok (.goto 4, 3) := by decide +kernel
theorem dX10_menLost_41 : decode cX10_menLost 41 = .ok (.iconst 0, 1) := by decide +kernel
theorem dX10_menLost_42 : decode cX10_menLost 42 = .ok (.ireturn, 1) := by decide +kernel
theorem dX10_leadIn_0 : decode cX10_leadIn 0 = .ok (.aload_n 0, 1) := by decide +kernel
theorem dX10_leadIn_1 : decode cX10_leadIn 1 = .ok (.iconst 0, 1) := by decide +kernel
theorem dX10_leadIn_2 : decode cX10_leadIn 2 = .ok (.iload_n 1, 1) := by decide +kernel
theorem dX10_leadIn_3 : decode cX10_leadIn 3 = .ok (.iload_n 2, 1) := by decide +kernel
theorem dX10_leadIn_4 : decode cX10_leadIn 4 = .ok (.invokevirtual 89, 3) := by decide +kernel
theorem dX10_leadIn_7 : decode cX10_leadIn 7 = .ok (.aload_n 0, 1) := by decide +kernel
theorem dX10_leadIn_8 : decode cX10_leadIn 8 = .ok (.iconst 1, 1) := by decide +kernel
theorem dX10_leadIn_9 : decode cX10_leadIn 9 = .ok (.iload_n 1, 1) := by decide +kernel
theorem dX10_leadIn_10 : decode cX10_leadIn 10 = .ok (.iload_n 2, 1) := by decide +kernel
theorem dX10_leadIn_11 : decode cX10_leadIn 11 = .ok (.invokevirtual 89, 3) := by decide +kernel
theorem dX10_leadIn_14 : decode cX10_leadIn 14 = .ok (.isub, 1) := by decide +kernel
theorem dX10_leadIn_15 : decode cX10_leadIn 15 = .ok (.ireturn, 1) := by decide +kernel
theorem dX10_isTea_0 : decode cX10_isTea 0 = .ok (.iconst 0, 1) := by decide +kernel
theorem dX10_isTea_1 : decode cX10_isTea 1 = .ok (.istore_n 2, 1) := by decide +kernel
theorem dX10_isTea_2 : decode cX10_isTea 2 = .ok (.iload_n 2, 1) := by decide +kernel
theorem dX10_isTea_3 : decode cX10_isTea 3 = .ok (.aload_n 0, 1) := by decide +kernel
theorem dX10_isTea_4 : decode cX10_isTea 4 = .ok (.getfield 24, 3) := by decide +kernel
theorem dX10_isTea_7 : decode cX10_isTea 7 = .ok (.getfield 58, 3) := by decide +kernel
theorem dX10_isTea_10 : decode cX10_isTea 10 = .ok (.if_icmp .ge 37, 3) := by decide +kernel
theorem dX10_isTea_13 : decode cX10_isTea 13 = .ok (.iload_n 1, 1) := by decide +kernel
theorem dX10_isTea_14 : decode cX10_isTea 14 = .ok (.aload_n 0, 1) := by decide +kernel
theorem dX10_isTea_15 : decode cX10_isTea 15 = .ok (.getfield 24, 3) := by decide +kernel
theorem dX10_isTea_18 : decode cX10_isTea 18 = .ok (.iload_n 2, 1) := by decide +kernel
theorem dX10_isTea_19 : decode cX10_isTea 19 = .ok (.iconst 0, 1) := by decide +kernel
theorem dX10_isTea_20 : decode cX10_isTea 20 = .ok (.invokevirtual 79, 3) := by decide +kernel
theorem dX10_isTea_23 : decode cX10_isTea 23 = .ok (.if_icmp .lt 18, 3) := by decide +kernel
theorem dX10_isTea_26 : decode cX10_isTea 26 = .ok (.iload_n 1, 1) := by decide +kernel
theorem dX10_isTea_27 : decode cX10_isTea 27 = .ok (.aload_n 0, 1) := by decide +kernel
theorem dX10_isTea_28 : decode cX10_isTea 28 = .ok (.getfield 24, 3) := by decide +kernel
theorem dX10_isTea_31 : decode cX10_isTea 31 = .ok (.iload_n 2, 1) := by decide +kernel
theorem dX10_isTea_32 : decode cX10_isTea 32 = .ok (.iconst 1, 1) := by decide +kernel
theorem dX10_isTea_33 : decode cX10_isTea 33 = .ok (.invokevirtual 79, 3) := by decide +kernel
theorem dX10_isTea_36 : decode cX10_isTea 36 = .ok (.if_icmp .gt 5, 3) := by decide +kernel
theorem dX10_isTea_39 : decode cX10_isTea 39 = .ok (.iconst 1, 1) := by decide +kernel
theorem dX10_isTea_40 : decode cX10_isTea 40 = .ok (.ireturn, 1) := by decide +kernel
theorem dX10_isTea_41 : decode cX10_isTea 41 = .ok (.iinc 2 1, 3) := by decide +kernel
theorem dX10_isTea_44 : decode cX10_isTea 44 = .ok (.goto (-42), 3) := by decide +kernel
theorem dX10_isTea_47 : decode cX10_isTea 47 = .ok (.iconst 0, 1) := by decide +kernel
theorem dX10_isTea_48 : decode cX10_isTea 48 = .ok (.ireturn, 1) := by decide +kernel
theorem dX10_lateSides_0 : decode cX10_lateSides 0 = .ok (.iconst 0, 1) := by decide +kernel
theorem dX10_lateSides_1 : decode cX10_lateSides 1 = .ok (.istore_n 2, 1) := by decide +kernel
theorem dX10_lateSides_2 : decode cX10_lateSides 2 = .ok (.iconst 0, 1) := by decide +kernel
theorem dX10_lateSides_3 : decode cX10_lateSides 3 = .ok (.istore_n 3, 1) := by decide +kernel
theorem dX10_lateSides_4 : decode cX10_lateSides 4 = .ok (.iload_n 3, 1) := by decide +kernel
theorem dX10_lateSides_5 : decode cX10_lateSides 5 = .ok (.iconst 2, 1) := by decide +kernel
theorem dX10_lateSides_6 : decode cX10_lateSides 6 = .ok (.if_icmp .ge 33, 3) := by decide +kernel
theorem dX10_lateSides_9 : decode cX10_lateSides 9 = .ok (.aload_n 0, 1) := by decide +kernel
theorem dX10_lateSides_10 : decode cX10_lateSides 10 = .ok (.iload_n 3, 1) := by decide +kernel
theorem dX10_lateSides_11 : decode cX10_lateSides 11 = .ok (.aload_n 0, 1) := by decide +kernel
theorem dX10_lateSides_12 : decode cX10_lateSides 12 = .ok (.getfield 49, 3) := by decide +kernel
theorem dX10_lateSides_15 : decode cX10_lateSides 15 = .ok (.iload_n 1, 1) := by decide +kernel
theorem dX10_lateSides_16 : decode cX10_lateSides 16 = .ok (.invokevirtual 89, 3) := by decide +kernel
theorem dX10_lateSides_19 : decode cX10_lateSides 19 = .ok (.aload_n 0, 1) := by decide +kernel
theorem dX10_lateSides_20 : decode cX10_lateSides 20 = .ok (.iload_n 3, 1) := by decide +kernel
theorem dX10_lateSides_21 : decode cX10_lateSides 21 = .ok (.invokevirtual 93, 3) := by decide +kernel
theorem dX10_lateSides_24 : decode cX10_lateSides 24 = .ok (.if_icmp .ge 9, 3) := by decide +kernel
theorem dX10_lateSides_27 : decode cX10_lateSides 27 = .ok (.iload_n 2, 1) := by decide +kernel
theorem dX10_lateSides_28 : decode cX10_lateSides 28 = .ok (.iconst 1, 1) := by decide +kernel
theorem dX10_lateSides_29 : decode cX10_lateSides 29 = .ok (.iload_n 3, 1) := by decide +kernel
theorem dX10_lateSides_30 : decode cX10_lateSides 30 = .ok (.ishl, 1) := by decide +kernel
theorem dX10_lateSides_31 : decode cX10_lateSides 31 = .ok (.ior, 1) := by decide +kernel
theorem dX10_lateSides_32 : decode cX10_lateSides 32 = .ok (.istore_n 2, 1) := by decide +kernel
theorem dX10_lateSides_33 : decode cX10_lateSides 33 = .ok (.iinc 3 1, 3) := by decide +kernel
theorem dX10_lateSides_36 : decode cX10_lateSides 36 = .ok (.goto (-32), 3) := by decide +kernel
theorem dX10_lateSides_39 : decode cX10_lateSides 39 = .ok (.iload_n 2, 1) := by decide +kernel
theorem dX10_lateSides_40 : decode cX10_lateSides 40 = .ok (.ireturn, 1) := by decide +kernel
theorem dX10_change_0 : decode cX10_change 0 = .ok (.aload_n 0, 1) := by decide +kernel
theorem dX10_change_1 : decode cX10_change 1 = .ok (.getfield 36, 3) := by decide +kernel
theorem dX10_change_4 : decode cX10_change 4 = .ok (.invokevirtual 97, 3) := by decide +kernel
theorem dX10_change_7 : decode cX10_change 7 = .ok (.ifCond .eq 6, 3) := by decide +kernel
theorem dX10_change_10 : decode cX10_change 10 = .ok (.bipush (-5), 2) := by decide +kernel
theorem dX10_change_12 : decode cX10_change 12 = .ok (.ireturn, 1) := by decide +kernel
theorem dX10_change_13 : decode cX10_change 13 = .ok (.aload_n 0, 1) := by decide +kernel
theorem dX10_change_14 : decode cX10_change 14 = .ok (.iload_n 1, 1) := by decide +kernel
theorem dX10_change_15 : decode cX10_change 15 = .ok (.iload_n 2, 1) := by decide +kernel
theorem dX10_change_16 : decode cX10_change 16 = .ok (.invokevirtual 100, 3) := by decide +kernel
theorem dX10_change_19 : decode cX10_change 19 = .ok (.istore 4, 2) := by decide +kernel
theorem dX10_change_21 : decode cX10_change 21 = .ok (.aload_n 0, 1) := by decide +kernel
theorem dX10_change_22 : decode cX10_change 22 = .ok (.getfield 36, 3) := by decide +kernel
theorem dX10_change_25 : decode cX10_change 25 = .ok (.invokevirtual 103, 3) := by decide +kernel
theorem dX10_change_28 : decode cX10_change 28 = .ok (.aload_n 0, 1) := by decide +kernel
theorem dX10_change_29 : decode cX10_change 29 = .ok (.getfield 36, 3) := by decide +kernel
theorem dX10_change_32 : decode cX10_change 32 = .ok (.getfield 58, 3) := by decide +kernel
theorem dX10_change_35 : decode cX10_change 35 = .ok (.iconst 1, 1) := by decide +kernel
theorem dX10_change_36 : decode cX10_change 36 = .ok (.isub, 1) := by decide +kernel
theorem dX10_change_37 : decode cX10_change 37 = .ok (.istore 5, 2) := by decide +kernel
theorem dX10_change_39 : decode cX10_change 39 = .ok (.aload_n 0, 1) := by decide +kernel
theorem dX10_change_40 : decode cX10_change 40 = .ok (.getfield 36, 3) := by decide +kernel
theorem dX10_change_43 : decode cX10_change 43 = .ok (.iload 5, 2) := by decide +kernel
theorem dX10_change_45 : decode cX10_change 45 = .ok (.iconst 0, 1) := by decide +kernel
theorem dX10_change_46 : decode cX10_change 46 = .ok (.iload_n 1, 1) := by decide +kernel
theorem dX10_change_47 : decode cX10_change 47 = .ok (.invokevirtual 106, 3) := by decide +kernel
theorem dX10_change_50 : decode cX10_change 50 = .ok (.aload_n 0, 1) := by decide +kernel
theorem dX10_change_51 : decode cX10_change 51 = .ok (.getfield 36, 3) := by decide +kernel
theorem dX10_change_54 : decode cX10_change 54 = .ok (.iload 5, 2) := by decide +kernel
theorem dX10_change_56 : decode cX10_change 56 = .ok (.iconst 1, 1) := by decide +kernel
theorem dX10_change_57 : decode cX10_change 57 = .ok (.iload_n 2, 1) := by decide +kernel
theorem dX10_change_58 : decode cX10_change 58 = .ok (.invokevirtual 106, 3) := by decide +kernel
theorem dX10_change_61 : decode cX10_change 61 = .ok (.aload_n 0, 1) := by decide +kernel
theorem dX10_change_62 : decode cX10_change 62 = .ok (.getfield 36, 3) := by decide +kernel
theorem dX10_change_65 : decode cX10_change 65 = .ok (.iload 5, 2) := by decide +kernel
theorem dX10_change_67 : decode cX10_change 67 = .ok (.iconst 2, 1) := by decide +kernel
theorem dX10_change_68 : decode cX10_change 68 = .ok (.iload 4, 2) := by decide +kernel
theorem dX10_change_70 : decode cX10_change 70 = .ok (.invokevirtual 106, 3) := by decide +kernel
theorem dX10_change_73 : decode cX10_change 73 = .ok (.aload_n 0, 1) := by decide +kernel
theorem dX10_change_74 : decode cX10_change 74 = .ok (.iload_n 1, 1) := by decide +kernel
theorem dX10_change_75 : decode cX10_change 75 = .ok (.iload_n 2, 1) := by decide +kernel
theorem dX10_change_76 : decode cX10_change 76 = .ok (.iload_n 3, 1) := by decide +kernel
theorem dX10_change_77 : decode cX10_change 77 = .ok (.invokevirtual 110, 3) := by decide +kernel
theorem dX10_change_80 : decode cX10_change 80 = .ok (.iload 4, 2) := by decide +kernel
theorem dX10_change_82 : decode cX10_change 82 = .ok (.ireturn, 1) := by decide +kernel
theorem dX10_takeBack_0 : decode cX10_takeBack 0 = .ok (.aload_n 0, 1) := by decide +kernel
theorem dX10_takeBack_1 : decode cX10_takeBack 1 = .ok (.getfield 36, 3) := by decide +kernel
theorem dX10_takeBack_4 : decode cX10_takeBack 4 = .ok (.getfield 58, 3) := by decide +kernel
theorem dX10_takeBack_7 : decode cX10_takeBack 7 = .ok (.ifCond .ne 6, 3) := by decide +kernel
theorem dX10_takeBack_10 : decode cX10_takeBack 10 = .ok (.bipush (-5), 2) := by decide +kernel
theorem dX10_takeBack_12 : decode cX10_takeBack 12 = .ok (.ireturn, 1) := by decide +kernel
theorem dX10_takeBack_13 : decode cX10_takeBack 13 = .ok (.aload_n 0, 1) := by decide +kernel
theorem dX10_takeBack_14 : decode cX10_takeBack 14 = .ok (.getfield 36, 3) := by decide +kernel
theorem dX10_takeBack_17 : decode cX10_takeBack 17 = .ok (.getfield 58, 3) := by decide +kernel
theorem dX10_takeBack_20 : decode cX10_takeBack 20 = .ok (.iconst 1, 1) := by decide +kernel
theorem dX10_takeBack_21 : decode cX10_takeBack 21 = .ok (.isub, 1) := by decide +kernel
theorem dX10_takeBack_22 : decode cX10_takeBack 22 = .ok (.istore_n 1, 1) := by decide +kernel
theorem dX10_takeBack_23 : decode cX10_takeBack 23 = .ok (.aload_n 0, 1) := by decide +kernel
theorem dX10_takeBack_24 : decode cX10_takeBack 24 = .ok (.aload_n 0, 1) := by decide +kernel
theorem dX10_takeBack_25 : decode cX10_takeBack 25 = .ok (.getfield 36, 3) := by decide +kernel
theorem dX10_takeBack_28 : decode cX10_takeBack 28 = .ok (.iload_n 1, 1) := by decide +kernel
theorem dX10_takeBack_29 : decode cX10_takeBack 29 = .ok (.iconst 0, 1) := by decide +kernel
theorem dX10_takeBack_30 : decode cX10_takeBack 30 = .ok (.invokevirtual 79, 3) := by decide +kernel
theorem dX10_takeBack_33 : decode cX10_takeBack 33 = .ok (.aload_n 0, 1) := by decide +kernel
theorem dX10_takeBack_34 : decode cX10_takeBack 34 = .ok (.getfield 36, 3) := by decide +kernel
theorem dX10_takeBack_37 : decode cX10_takeBack 37 = .ok (.iload_n 1, 1) := by decide +kernel
theorem dX10_takeBack_38 : decode cX10_takeBack 38 = .ok (.iconst 1, 1) := by decide +kernel
theorem dX10_takeBack_39 : decode cX10_takeBack 39 = .ok (.invokevirtual 79, 3) := by decide +kernel
theorem dX10_takeBack_42 : decode cX10_takeBack 42 = .ok (.aload_n 0, 1) := by decide +kernel
theorem dX10_takeBack_43 : decode cX10_takeBack 43 = .ok (.getfield 36, 3) := by decide +kernel
theorem dX10_takeBack_46 : decode cX10_takeBack 46 = .ok (.iload_n 1, 1) := by decide +kernel
theorem dX10_takeBack_47 : decode cX10_takeBack 47 = .ok (.iconst 2, 1) := by decide +kernel
theorem dX10_takeBack_48 : decode cX10_takeBack 48 = .ok (.invokevirtual 79, 3) := by decide +kernel
theorem dX10_takeBack_51 : decode cX10_takeBack 51 = .ok (.invokevirtual 110, 3) := by decide +kernel
theorem dX10_takeBack_54 : decode cX10_takeBack 54 = .ok (.aload_n 0, 1) := by decide +kernel
theorem dX10_takeBack_55 : decode cX10_takeBack 55 = .ok (.getfield 36, 3) := by decide +kernel
theorem dX10_takeBack_58 : decode cX10_takeBack 58 = .ok (.invokevirtual 113, 3) := by decide +kernel
theorem dX10_takeBack_61 : decode cX10_takeBack 61 = .ok (.aload_n 0, 1) := by decide +kernel
theorem dX10_takeBack_62 : decode cX10_takeBack 62 = .ok (.getfield 36, 3) := by decide +kernel
theorem dX10_takeBack_65 : decode cX10_takeBack 65 = .ok (.getfield 58, 3) := by decide +kernel
theorem dX10_takeBack_68 : decode cX10_takeBack 68 = .ok (.ireturn, 1) := by decide +kernel
theorem dX10_toldNumber_0 : decode cX10_toldNumber 0 = .ok (.iload_n 2, 1) := by decide +kernel
theorem dX10_toldNumber_1 : decode cX10_toldNumber 1 = .ok (.ifCond .lt 25, 3) := by decide +kernel
theorem dX10_toldNumber_4 : decode cX10_toldNumber 4 = .ok (.iload_n 2, 1) := by decide +kernel
theorem dX10_toldNumber_5 : decode cX10_toldNumber 5 = .ok (.getstatic 116, 3) := by decide +kernel
theorem dX10_toldNumber_8 : decode cX10_toldNumber 8 = .ok (.arraylength, 1) := by decide +kernel
theorem dX10_toldNumber_9 : decode cX10_toldNumber 9 = .ok (.if_icmp .ge 17, 3) := by decide +kernel
theorem dX10_toldNumber_12 : decode cX10_toldNumber 12 = .ok (.aload_n 0, 1) := by decide +kernel
