theorem dX12_guardOf_44 : decode cX12_guardOf 44 = .ok (.iconst 0, 1) := by decide +kernel
theorem dX12_guardOf_45 : decode cX12_guardOf 45 = .ok (.invokevirtual 82, 3) := by decide +kernel
theorem dX12_guardOf_48 : decode cX12_guardOf 48 = .ok (.iload_n 1, 1) := by decide +kernel
theorem dX12_guardOf_49 : decode cX12_guardOf 49 = .ok (.if_icmp .eq 6, 3) := by decide +kernel
theorem dX12_guardOf_52 : decode cX12_guardOf 52 = .ok (.goto 51, 3) := by decide +kernel
theorem dX12_guardOf_55 : decode cX12_guardOf 55 = .ok (.aload_n 0, 1) := by decide +kernel
theorem dX12_guardOf_56 : decode cX12_guardOf 56 = .ok (.iload_n 1, 1) := by decide +kernel
theorem dX12_guardOf_57 : decode cX12_guardOf 57 = .ok (.iconst 1, 1) := by decide +kernel
theorem dX12_guardOf_58 : decode cX12_guardOf 58 = .ok (.iload_n 3, 1) := by decide +kernel
theorem dX12_guardOf_59 : decode cX12_guardOf 59 = .ok (.ishl, 1) := by decide +kernel
theorem dX12_guardOf_60 : decode cX12_guardOf 60 = .ok (.invokevirtual 345, 3) := by decide +kernel
theorem dX12_guardOf_63 : decode cX12_guardOf 63 = .ok (.aload_n 0, 1) := by decide +kernel
theorem dX12_guardOf_64 : decode cX12_guardOf 64 = .ok (.getfield 308, 3) := by decide +kernel
theorem dX12_guardOf_67 : decode cX12_guardOf 67 = .ok (.iconst (-1), 1) := by decide +kernel
theorem dX12_guardOf_68 : decode cX12_guardOf 68 = .ok (.if_icmp .ne 9, 3) := by decide +kernel
theorem dX12_guardOf_71 : decode cX12_guardOf 71 = .ok (.ldc_w 280, 3) := by decide +kernel
theorem dX12_guardOf_74 : decode cX12_guardOf 74 = .ok (.goto 7, 3) := by decide +kernel
theorem dX12_guardOf_77 : decode cX12_guardOf 77 = .ok (.aload_n 0, 1) := by decide +kernel
theorem dX12_guardOf_78 : decode cX12_guardOf 78 = .ok (.getfield 311, 3) := by decide +kernel
theorem dX12_guardOf_81 : decode cX12_guardOf 81 = .ok (.istore 4, 2) := by decide +kernel
theorem dX12_guardOf_83 : decode cX12_guardOf 83 = .ok (.iload 4, 2) := by decide +kernel
theorem dX12_guardOf_85 : decode cX12_guardOf 85 = .ok (.aload_n 0, 1) := by decide +kernel
theorem dX12_guardOf_86 : decode cX12_guardOf 86 = .ok (.getfield 348, 3) := by decide +kernel
theorem dX12_guardOf_89 : decode cX12_guardOf 89 = .ok (.if_icmp .gt 6, 3) := by decide +kernel
theorem dX12_guardOf_92 : decode cX12_guardOf 92 = .ok (.goto 11, 3) := by decide +kernel
theorem dX12_guardOf_95 : decode cX12_guardOf 95 = .ok (.aload_n 0, 1) := by decide +kernel
theorem dX12_guardOf_96 : decode cX12_guardOf 96 = .ok (.iload 4, 2) := by decide +kernel
theorem dX12_guardOf_98 : decode cX12_guardOf 98 = .ok (.putfield 348, 3) := by decide +kernel
theorem dX12_guardOf_101 : decode cX12_guardOf 101 = .ok (.iload_n 3, 1) := by decide +kernel
theorem dX12_guardOf_102 : decode cX12_guardOf 102 = .ok (.istore_n 2, 1) := by decide +kernel
theorem dX12_guardOf_103 : decode cX12_guardOf 103 = .ok (.iinc 3 1, 3) := by decide +kernel
theorem dX12_guardOf_106 : decode cX12_guardOf 106 = .ok (.goto (-74), 3) := by decide +kernel
theorem dX12_guardOf_109 : decode cX12_guardOf 109 = .ok (.iload_n 2, 1) := by decide +kernel
theorem dX12_guardOf_110 : decode cX12_guardOf 110 = .ok (.ireturn, 1) := by decide +kernel
theorem dX12_guard_0 : decode cX12_guard 0 = .ok (.aload_n 0, 1) := by decide +kernel
theorem dX12_guard_1 : decode cX12_guard 1 = .ok (.iload_n 1, 1) := by decide +kernel
theorem dX12_guard_2 : decode cX12_guard 2 = .ok (.invokevirtual 236, 3) := by decide +kernel
theorem dX12_guard_5 : decode cX12_guard 5 = .ok (.ifCond .eq 11, 3) := by decide +kernel
theorem dX12_guard_8 : decode cX12_guard 8 = .ok (.aload_n 0, 1) := by decide +kernel
theorem dX12_guard_9 : decode cX12_guard 9 = .ok (.iload_n 1, 1) := by decide +kernel
theorem dX12_guard_10 : decode cX12_guard 10 = .ok (.invokevirtual 351, 3) := by decide +kernel
theorem dX12_guard_13 : decode cX12_guard 13 = .ok (.goto 5, 3) := by decide +kernel
theorem dX12_guard_16 : decode cX12_guard 16 = .ok (.bipush (-2), 2) := by decide +kernel
theorem dX12_guard_18 : decode cX12_guard 18 = .ok (.ireturn, 1) := by decide +kernel
theorem dX12_guarded_0 : decode cX12_guarded 0 = .ok (.aload_n 0, 1) := by decide +kernel
theorem dX12_guarded_1 : decode cX12_guarded 1 = .ok (.iload_n 1, 1) := by decide +kernel
theorem dX12_guarded_2 : decode cX12_guarded 2 = .ok (.invokevirtual 236, 3) := by decide +kernel
theorem dX12_guarded_5 : decode cX12_guarded 5 = .ok (.ifCond .eq 12, 3) := by decide +kernel
theorem dX12_guarded_8 : decode cX12_guarded 8 = .ok (.aload_n 0, 1) := by decide +kernel
theorem dX12_guarded_9 : decode cX12_guarded 9 = .ok (.iload_n 1, 1) := by decide +kernel
theorem dX12_guarded_10 : decode cX12_guarded 10 = .ok (.invokevirtual 351, 3) := by decide +kernel
theorem dX12_guarded_13 : decode cX12_guarded 13 = .ok (.iconst (-1), 1) := by decide +kernel
theorem dX12_guarded_14 : decode cX12_guarded 14 = .ok (.if_icmp .ne 6, 3) := by decide +kernel
theorem dX12_guarded_17 : decode cX12_guarded 17 = .ok (.bipush (-2), 2) := by decide +kernel
theorem dX12_guarded_19 : decode cX12_guarded 19 = .ok (.ireturn, 1) := by decide +kernel
theorem dX12_guarded_20 : decode cX12_guarded 20 = .ok (.aload_n 0, 1) := by decide +kernel
theorem dX12_guarded_21 : decode cX12_guarded 21 = .ok (.getfield 348, 3) := by decide +kernel
theorem dX12_guarded_24 : decode cX12_guarded 24 = .ok (.ldc_w 280, 3) := by decide +kernel
theorem dX12_guarded_27 : decode cX12_guarded 27 = .ok (.if_icmp .ne 7, 3) := by decide +kernel
theorem dX12_guarded_30 : decode cX12_guarded 30 = .ok (.iconst (-1), 1) := by decide +kernel
theorem dX12_guarded_31 : decode cX12_guarded 31 = .ok (.goto 7, 3) := by decide +kernel
theorem dX12_guarded_34 : decode cX12_guarded 34 = .ok (.aload_n 0, 1) := by decide +kernel
theorem dX12_guarded_35 : decode cX12_guarded 35 = .ok (.getfield 348, 3) := by decide +kernel
theorem dX12_guarded_38 : decode cX12_guarded 38 = .ok (.ireturn, 1) := by decide +kernel
theorem dX12_fillFronts_0 : decode cX12_fillFronts 0 = .ok (.iconst 0, 1) := by decide +kernel
theorem dX12_fillFronts_1 : decode cX12_fillFronts 1 = .ok (.istore_n 1, 1) := by decide +kernel
theorem dX12_fillFronts_2 : decode cX12_fillFronts 2 = .ok (.iload_n 1, 1) := by decide +kernel
theorem dX12_fillFronts_3 : decode cX12_fillFronts 3 = .ok (.aload_n 0, 1) := by decide +kernel
theorem dX12_fillFronts_4 : decode cX12_fillFronts 4 = .ok (.invokevirtual 78, 3) := by decide +kernel
theorem dX12_fillFronts_7 : decode cX12_fillFronts 7 = .ok (.if_icmp .gt 20, 3) := by decide +kernel
theorem dX12_fillFronts_10 : decode cX12_fillFronts 10 = .ok (.aload_n 0, 1) := by decide +kernel
theorem dX12_fillFronts_11 : decode cX12_fillFronts 11 = .ok (.getfield 40, 3) := by decide +kernel
theorem dX12_fillFronts_14 : decode cX12_fillFronts 14 = .ok (.iload_n 1, 1) := by decide +kernel
theorem dX12_fillFronts_15 : decode cX12_fillFronts 15 = .ok (.aload_n 0, 1) := by decide +kernel
theorem dX12_fillFronts_16 : decode cX12_fillFronts 16 = .ok (.iload_n 1, 1) := by decide +kernel
theorem dX12_fillFronts_17 : decode cX12_fillFronts 17 = .ok (.invokevirtual 258, 3) := by decide +kernel
theorem dX12_fillFronts_20 : decode cX12_fillFronts 20 = .ok (.iastore, 1) := by decide +kernel
theorem dX12_fillFronts_21 : decode cX12_fillFronts 21 = .ok (.iinc 1 1, 3) := by decide +kernel
theorem dX12_fillFronts_24 : decode cX12_fillFronts 24 = .ok (.goto (-22), 3) := by decide +kernel
theorem dX12_fillFronts_27 : decode cX12_fillFronts 27 = .ok (.return_, 1) := by decide +kernel
theorem dX12_isPrice_0 : decode cX12_isPrice 0 = .ok (.iload_n 0, 1) := by decide +kernel
theorem dX12_isPrice_1 : decode cX12_isPrice 1 = .ok (.i2l, 1) := by decide +kernel
theorem dX12_isPrice_2 : decode cX12_isPrice 2 = .ok (.lconst 0, 1) := by decide +kernel
theorem dX12_isPrice_3 : decode cX12_isPrice 3 = .ok (.ldc2_w 354, 3) := by decide +kernel
theorem dX12_isPrice_6 : decode cX12_isPrice 6 = .ok (.invokestatic 70, 3) := by decide +kernel
theorem dX12_isPrice_9 : decode cX12_isPrice 9 = .ok (.ireturn, 1) := by decide +kernel
theorem dX12_isBought_0 : decode cX12_isBought 0 = .ok (.iload_n 2, 1) := by decide +kernel
theorem dX12_isBought_1 : decode cX12_isBought 1 = .ok (.aload_n 0, 1) := by decide +kernel
theorem dX12_isBought_2 : decode cX12_isBought 2 = .ok (.iload_n 1, 1) := by decide +kernel
theorem dX12_isBought_3 : decode cX12_isBought 3 = .ok (.invokevirtual 314, 3) := by decide +kernel
theorem dX12_isBought_6 : decode cX12_isBought 6 = .ok (.iconst (-1), 1) := by decide +kernel
theorem dX12_isBought_7 : decode cX12_isBought 7 = .ok (.ixor, 1) := by decide +kernel
theorem dX12_isBought_8 : decode cX12_isBought 8 = .ok (.iand, 1) := by decide +kernel
theorem dX12_isBought_9 : decode cX12_isBought 9 = .ok (.ifCond .ne 16, 3) := by decide +kernel
theorem dX12_isBought_12 : decode cX12_isBought 12 = .ok (.aload_n 0, 1) := by decide +kernel
theorem dX12_isBought_13 : decode cX12_isBought 13 = .ok (.iload_n 2, 1) := by decide +kernel
theorem dX12_isBought_14 : decode cX12_isBought 14 = .ok (.invokevirtual 320, 3) := by decide +kernel
theorem dX12_isBought_17 : decode cX12_isBought 17 = .ok (.iload_n 3, 1) := by decide +kernel
theorem dX12_isBought_18 : decode cX12_isBought 18 = .ok (.if_icmp .gt 7, 3) := by decide +kernel
theorem dX12_isBought_21 : decode cX12_isBought 21 = .ok (.iconst 1, 1) := by decide +kernel
theorem dX12_isBought_22 : decode cX12_isBought 22 = .ok (.goto 4, 3) := by decide +kernel
theorem dX12_isBought_25 : decode cX12_isBought 25 = .ok (.iconst 0, 1) := by decide +kernel
theorem dX12_isBought_26 : decode cX12_isBought 26 = .ok (.ireturn, 1) := by decide +kernel
theorem dX12_spoilOf_0 : decode cX12_spoilOf 0 = .ok (.aload_n 0, 1) := by decide +kernel
theorem dX12_spoilOf_1 : decode cX12_spoilOf 1 = .ok (.invokevirtual 356, 3) := by decide +kernel
theorem dX12_spoilOf_4 : decode cX12_spoilOf 4 = .ok (.ldc_w 280, 3) := by decide +kernel
theorem dX12_spoilOf_7 : decode cX12_spoilOf 7 = .ok (.istore_n 3, 1) := by decide +kernel
theorem dX12_spoilOf_8 : decode cX12_spoilOf 8 = .ok (.iconst 0, 1) := by decide +kernel
theorem dX12_spoilOf_9 : decode cX12_spoilOf 9 = .ok (.istore 4, 2) := by decide +kernel
theorem dX12_spoilOf_11 : decode cX12_spoilOf 11 = .ok (.iload 4, 2) := by decide +kernel
theorem dX12_spoilOf_13 : decode cX12_spoilOf 13 = .ok (.aload_n 0, 1) := by decide +kernel
theorem dX12_spoilOf_14 : decode cX12_spoilOf 14 = .ok (.invokevirtual 78, 3) := by decide +kernel
theorem dX12_spoilOf_17 : decode cX12_spoilOf 17 = .ok (.if_icmp .gt 56, 3) := by decide +kernel
theorem dX12_spoilOf_20 : decode cX12_spoilOf 20 = .ok (.aload_n 0, 1) := by decide +kernel
theorem dX12_spoilOf_21 : decode cX12_spoilOf 21 = .ok (.iload_n 1, 1) := by decide +kernel
theorem dX12_spoilOf_22 : decode cX12_spoilOf 22 = .ok (.iload 4, 2) := by decide +kernel
theorem dX12_spoilOf_24 : decode cX12_spoilOf 24 = .ok (.iload_n 2, 1) := by decide +kernel
theorem dX12_spoilOf_25 : decode cX12_spoilOf 25 = .ok (.invokevirtual 359, 3) := by decide +kernel
theorem dX12_spoilOf_28 : decode cX12_spoilOf 28 = .ok (.ifCond .eq 39, 3) := by decide +kernel
theorem dX12_spoilOf_31 : decode cX12_spoilOf 31 = .ok (.iload_n 1, 1) := by decide +kernel
theorem dX12_spoilOf_32 : decode cX12_spoilOf 32 = .ok (.aload_n 0, 1) := by decide +kernel
theorem dX12_spoilOf_33 : decode cX12_spoilOf 33 = .ok (.getfield 40, 3) := by decide +kernel
theorem dX12_spoilOf_36 : decode cX12_spoilOf 36 = .ok (.iload 4, 2) := by decide +kernel
theorem dX12_spoilOf_38 : decode cX12_spoilOf 38 = .ok (.iaload, 1) := by decide +kernel
theorem dX12_spoilOf_39 : decode cX12_spoilOf 39 = .ok (.invokestatic 272, 3) := by decide +kernel
theorem dX12_spoilOf_42 : decode cX12_spoilOf 42 = .ok (.iload_n 3, 1) := by decide +kernel
theorem dX12_spoilOf_43 : decode cX12_spoilOf 43 = .ok (.if_icmp .lt 6, 3) := by decide +kernel
theorem dX12_spoilOf_46 : decode cX12_spoilOf 46 = .ok (.goto 21, 3) := by decide +kernel
theorem dX12_spoilOf_49 : decode cX12_spoilOf 49 = .ok (.iload_n 1, 1) := by decide +kernel
theorem dX12_spoilOf_50 : decode cX12_spoilOf 50 = .ok (.aload_n 0, 1) := by decide +kernel
theorem dX12_spoilOf_51 : decode cX12_spoilOf 51 = .ok (.getfield 40, 3) := by decide +kernel
theorem dX12_spoilOf_54 : decode cX12_spoilOf 54 = .ok (.iload 4, 2) := by decide +kernel
theorem dX12_spoilOf_56 : decode cX12_spoilOf 56 = .ok (.iaload, 1) := by decide +kernel
theorem dX12_spoilOf_57 : decode cX12_spoilOf 57 = .ok (.invokestatic 272, 3) := by decide +kernel
theorem dX12_spoilOf_60 : decode cX12_spoilOf 60 = .ok (.istore_n 3, 1) := by decide +kernel
theorem dX12_spoilOf_61 : decode cX12_spoilOf 61 = .ok (.aload_n 0, 1) := by decide +kernel
theorem dX12_spoilOf_62 : decode cX12_spoilOf 62 = .ok (.iload 4, 2) := by decide +kernel
theorem dX12_spoilOf_64 : decode cX12_spoilOf 64 = .ok (.putfield 363, 3) := by decide +kernel
theorem dX12_spoilOf_67 : decode cX12_spoilOf 67 = .ok (.iinc 4 1, 3) := by decide +kernel
theorem dX12_spoilOf_70 : decode cX12_spoilOf 70 = .ok (.goto (-59), 3) := by decide +kernel
theorem dX12_spoilOf_73 : decode cX12_spoilOf 73 = .ok (.iload_n 3, 1) := by decide +kernel
theorem dX12_spoilOf_74 : decode cX12_spoilOf 74 = .ok (.ireturn, 1) := by decide +kernel
theorem dX12_spoil_0 : decode cX12_spoil 0 = .ok (.aload_n 0, 1) := by decide +kernel
theorem dX12_spoil_1 : decode cX12_spoil 1 = .ok (.iload_n 1, 1) := by decide +kernel
theorem dX12_spoil_2 : decode cX12_spoil 2 = .ok (.invokevirtual 236, 3) := by decide +kernel
theorem dX12_spoil_5 : decode cX12_spoil 5 = .ok (.ifCond .eq 19, 3) := by decide +kernel
theorem dX12_spoil_8 : decode cX12_spoil 8 = .ok (.iload_n 2, 1) := by decide +kernel
theorem dX12_spoil_9 : decode cX12_spoil 9 = .ok (.invokestatic 366, 3) := by decide +kernel
theorem dX12_spoil_12 : decode cX12_spoil 12 = .ok (.ifCond .eq 12, 3) := by decide +kernel
theorem dX12_spoil_15 : decode cX12_spoil 15 = .ok (.aload_n 0, 1) := by decide +kernel
theorem dX12_spoil_16 : decode cX12_spoil 16 = .ok (.iload_n 1, 1) := by decide +kernel
theorem dX12_spoil_17 : decode cX12_spoil 17 = .ok (.iload_n 2, 1) := by decide +kernel
theorem dX12_spoil_18 : decode cX12_spoil 18 = .ok (.invokevirtual 369, 3) := by decide +kernel
theorem dX12_spoil_21 : decode cX12_spoil 21 = .ok (.goto 6, 3) := by decide +kernel
theorem dX12_spoil_24 : decode cX12_spoil 24 = .ok (.sipush (-1000), 3) := by decide +kernel
theorem dX12_spoil_27 : decode cX12_spoil 27 = .ok (.ireturn, 1) := by decide +kernel
theorem dX12_spoils_0 : decode cX12_spoils 0 = .ok (.aload_n 0, 1) := by decide +kernel
theorem dX12_spoils_1 : decode cX12_spoils 1 = .ok (.iload_n 1, 1) := by decide +kernel
theorem dX12_spoils_2 : decode cX12_spoils 2 = .ok (.invokevirtual 236, 3) := by decide +kernel
theorem dX12_spoils_5 : decode cX12_spoils 5 = .ok (.ifCond .eq 10, 3) := by decide +kernel
theorem dX12_spoils_8 : decode cX12_spoils 8 = .ok (.iload_n 2, 1) := by decide +kernel
theorem dX12_spoils_9 : decode cX12_spoils 9 = .ok (.invokestatic 366, 3) := by decide +kernel
theorem dX12_spoils_12 : decode cX12_spoils 12 = .ok (.ifCond .ne 6, 3) := by decide +kernel
theorem dX12_spoils_15 : decode cX12_spoils 15 = .ok (.bipush (-2), 2) := by decide +kernel
theorem dX12_spoils_17 : decode cX12_spoils 17 = .ok (.ireturn, 1) := by decide +kernel
theorem dX12_spoils_18 : decode cX12_spoils 18 = .ok (.aload_n 0, 1) := by decide +kernel
theorem dX12_spoils_19 : decode cX12_spoils 19 = .ok (.iload_n 1, 1) := by decide +kernel
theorem dX12_spoils_20 : decode cX12_spoils 20 = .ok (.iload_n 2, 1) := by decide +kernel
theorem dX12_spoils_21 : decode cX12_spoils 21 = .ok (.invokevirtual 369, 3) := by decide +kernel
theorem dX12_spoils_24 : decode cX12_spoils 24 = .ok (.pop, 1) := by decide +kernel
theorem dX12_spoils_25 : decode cX12_spoils 25 = .ok (.aload_n 0, 1) := by decide +kernel
theorem dX12_spoils_26 : decode cX12_spoils 26 = .ok (.getfield 363, 3) := by decide +kernel
theorem dX12_spoils_29 : decode cX12_spoils 29 = .ok (.ireturn, 1) := by decide +kernel
theorem dX12_bestGood_0 : decode cX12_bestGood 0 = .ok (.ldc_w 372, 3) := by decide +kernel
theorem dX12_bestGood_3 : decode cX12_bestGood 3 = .ok (.istore 4, 2) := by decide +kernel
theorem dX12_bestGood_5 : decode cX12_bestGood 5 = .ok (.iconst 0, 1) := by decide +kernel
theorem dX12_bestGood_6 : decode cX12_bestGood 6 = .ok (.istore 5, 2) := by decide +kernel
theorem dX12_bestGood_8 : decode cX12_bestGood 8 = .ok (.iload 5, 2) := by decide +kernel
theorem dX12_bestGood_10 : decode cX12_bestGood 10 = .ok (.aload_n 0, 1) := by decide +kernel
theorem dX12_bestGood_11 : decode cX12_bestGood 11 = .ok (.invokevirtual 78, 3) := by decide +kernel
theorem dX12_bestGood_14 : decode cX12_bestGood 14 = .ok (.if_icmp .gt 42, 3) := by decide +kernel
theorem dX12_bestGood_17 : decode cX12_bestGood 17 = .ok (.aload_n 0, 1) := by decide +kernel
theorem dX12_bestGood_18 : decode cX12_bestGood 18 = .ok (.iconst 1, 1) := by decide +kernel
theorem dX12_bestGood_19 : decode cX12_bestGood 19 = .ok (.iload_n 1, 1) := by decide +kernel
theorem dX12_bestGood_20 : decode cX12_bestGood 20 = .ok (.isub, 1) := by decide +kernel
theorem dX12_bestGood_21 : decode cX12_bestGood 21 = .ok (.iload 5, 2) := by decide +kernel
theorem dX12_bestGood_23 : decode cX12_bestGood 23 = .ok (.iload_n 3, 1) := by decide +kernel
theorem dX12_bestGood_24 : decode cX12_bestGood 24 = .ok (.invokevirtual 359, 3) := by decide +kernel
theorem dX12_bestGood_27 : decode cX12_bestGood 27 = .ok (.ifCond .eq 23, 3) := by decide +kernel
theorem dX12_bestGood_30 : decode cX12_bestGood 30 = .ok (.iload 4, 2) := by decide +kernel
theorem dX12_bestGood_32 : decode cX12_bestGood 32 = .ok (.iload_n 1, 1) := by decide +kernel
theorem dX12_bestGood_33 : decode cX12_bestGood 33 = .ok (.aload_n 0, 1) := by decide +kernel
theorem dX12_bestGood_34 : decode cX12_bestGood 34 = .ok (.getfield 40, 3) := by decide +kernel
theorem dX12_bestGood_37 : decode cX12_bestGood 37 = .ok (.iload_n 2, 1) := by decide +kernel
theorem dX12_bestGood_38 : decode cX12_bestGood 38 = .ok (.iload 5, 2) := by decide +kernel
theorem dX12_bestGood_40 : decode cX12_bestGood 40 = .ok (.ior, 1) := by decide +kernel
theorem dX12_bestGood_41 : decode cX12_bestGood 41 = .ok (.iaload, 1) := by decide +kernel
theorem dX12_bestGood_42 : decode cX12_bestGood 42 = .ok (.invokestatic 272, 3) := by decide +kernel
theorem dX12_bestGood_45 : decode cX12_bestGood 45 = .ok (.invokestatic 373, 3) := by decide +kernel
theorem dX12_bestGood_48 : decode cX12_bestGood 48 = .ok (.istore 4, 2) := by decide +kernel
theorem dX12_bestGood_50 : decode cX12_bestGood 50 = .ok (.iinc 5 1, 3) := by decide +kernel
theorem dX12_bestGood_53 : decode cX12_bestGood 53 = .ok (.goto (-45), 3) := by decide +kernel
theorem dX12_bestGood_56 : decode cX12_bestGood 56 = .ok (.iload 4, 2) := by decide +kernel
theorem dX12_bestGood_58 : decode cX12_bestGood 58 = .ok (.ireturn, 1) := by decide +kernel
theorem dX12_answer_0 : decode cX12_answer 0 = .ok (.aload_n 0, 1) := by decide +kernel
theorem dX12_answer_1 : decode cX12_answer 1 = .ok (.iload_n 1, 1) := by decide +kernel
theorem dX12_answer_2 : decode cX12_answer 2 = .ok (.invokevirtual 236, 3) := by decide +kernel
theorem dX12_answer_5 : decode cX12_answer 5 = .ok (.ifCond .eq 10, 3) := by decide +kernel
theorem dX12_answer_8 : decode cX12_answer 8 = .ok (.iload_n 2, 1) := by decide +kernel
theorem dX12_answer_9 : decode cX12_answer 9 = .ok (.invokestatic 366, 3) := by decide +kernel
theorem dX12_answer_12 : decode cX12_answer 12 = .ok (.ifCond .ne 7, 3) := by decide +kernel
theorem dX12_answer_15 : decode cX12_answer 15 = .ok (.sipush (-1000), 3) := by decide +kernel
theorem dX12_answer_18 : decode cX12_answer 18 = .ok (.ireturn, 1) := by decide +kernel
theorem dX12_answer_19 : decode cX12_answer 19 = .ok (.aload_n 0, 1) := by decide +kernel
theorem dX12_answer_20 : decode cX12_answer 20 = .ok (.invokevirtual 356, 3) := by decide +kernel
theorem dX12_answer_23 : decode cX12_answer 23 = .ok (.ldc_w 280, 3) := by decide +kernel
theorem dX12_answer_26 : decode cX12_answer 26 = .ok (.istore_n 3, 1) := by decide +kernel
theorem dX12_answer_27 : decode cX12_answer 27 = .ok (.iconst 0, 1) := by decide +kernel
theorem dX12_answer_28 : decode cX12_answer 28 = .ok (.istore 4, 2) := by decide +kernel
theorem dX12_answer_30 : decode cX12_answer 30 = .ok (.iload 4, 2) := by decide +kernel
theorem dX12_answer_32 : decode cX12_answer 32 = .ok (.aload_n 0, 1) := by decide +kernel
theorem dX12_answer_33 : decode cX12_answer 33 = .ok (.invokevirtual 78, 3) := by decide +kernel
theorem dX12_answer_36 : decode cX12_answer 36 = .ok (.if_icmp .gt 33, 3) := by decide +kernel
theorem dX12_answer_39 : decode cX12_answer 39 = .ok (.aload_n 0, 1) := by decide +kernel
theorem dX12_answer_40 : decode cX12_answer 40 = .ok (.iload_n 1, 1) := by decide +kernel
theorem dX12_answer_41 : decode cX12_answer 41 = .ok (.iload 4, 2) := by decide +kernel
theorem dX12_answer_43 : decode cX12_answer 43 = .ok (.iload_n 2, 1) := by decide +kernel
theorem dX12_answer_44 : decode cX12_answer 44 = .ok (.invokevirtual 359, 3) := by decide +kernel
theorem dX12_answer_47 : decode cX12_answer 47 = .ok (.ifCond .eq 16, 3) := by decide +kernel
theorem dX12_answer_50 : decode cX12_answer 50 = .ok (.iload_n 3, 1) := by decide +kernel
theorem dX12_answer_51 : decode cX12_answer 51 = .ok (.aload_n 0, 1) := by decide +kernel
theorem dX12_answer_52 : decode cX12_answer 52 = .ok (.iload_n 1, 1) := by decide +kernel
theorem dX12_answer_53 : decode cX12_answer 53 = .ok (.iload 4, 2) := by decide +kernel
theorem dX12_answer_55 : decode cX12_answer 55 = .ok (.iload_n 2, 1) := by decide +kernel
theorem dX12_answer_56 : decode cX12_answer 56 = .ok (.invokevirtual 376, 3) := by decide +kernel
theorem dX12_answer_59 : decode cX12_answer 59 = .ok (.invokestatic 120, 3) := by decide +kernel
theorem dX12_answer_62 : decode cX12_answer 62 = .ok (.istore_n 3, 1) := by decide +kernel
theorem dX12_answer_63 : decode cX12_answer 63 = .ok (.iinc 4 1, 3) := by decide +kernel
theorem dX12_answer_66 : decode cX12_answer 66 = .ok (.goto (-36), 3) := by decide +kernel
theorem dX12_answer_69 : decode cX12_answer 69 = .ok (.iload_n 3, 1) := by decide +kernel
theorem dX12_answer_70 : decode cX12_answer 70 = .ok (.ireturn, 1) := by decide +kernel
theorem dX12_rests_0 : decode cX12_rests 0 = .ok (.aload_n 0, 1) := by decide +kernel
theorem dX12_rests_1 : decode cX12_rests 1 = .ok (.invokevirtual 74, 3) := by decide +kernel
theorem dX12_rests_4 : decode cX12_rests 4 = .ok (.ifCond .eq 10, 3) := by decide +kernel
theorem dX12_rests_7 : decode cX12_rests 7 = .ok (.iload_n 1, 1) := by decide +kernel
theorem dX12_rests_8 : decode cX12_rests 8 = .ok (.invokestatic 366, 3) := by decide +kernel
theorem dX12_rests_11 : decode cX12_rests 11 = .ok (.ifCond .ne 6, 3) := by decide +kernel
theorem dX12_rests_14 : decode cX12_rests 14 = .ok (.bipush (-2), 2) := by decide +kernel
theorem dX12_rests_16 : decode cX12_rests 16 = .ok (.ireturn, 1) := by decide +kernel
theorem dX12_rests_17 : decode cX12_rests 17 = .ok (.aload_n 0, 1) := by decide +kernel
theorem dX12_rests_18 : decode cX12_rests 18 = .ok (.invokevirtual 356, 3) := by decide +kernel
theorem dX12_rests_21 : decode cX12_rests 21 = .ok (.iconst 0, 1) := by decide +kernel
theorem dX12_rests_22 : decode cX12_rests 22 = .ok (.istore_n 2, 1) := by decide +kernel
theorem dX12_rests_23 : decode cX12_rests 23 = .ok (.iconst 0, 1) := by decide +kernel
theorem dX12_rests_24 : decode cX12_rests 24 = .ok (.istore_n 3, 1) := by decide +kernel
theorem dX12_rests_25 : decode cX12_rests 25 = .ok (.iload_n 3, 1) := by decide +kernel
theorem dX12_rests_26 : decode cX12_rests 26 = .ok (.aload_n 0, 1) := by decide +kernel
theorem dX12_rests_27 : decode cX12_rests 27 = .ok (.invokevirtual 78, 3) := by decide +kernel
theorem dX12_rests_30 : decode cX12_rests 30 = .ok (.if_icmp .gt 98, 3) := by decide +kernel
theorem dX12_rests_33 : decode cX12_rests 33 = .ok (.aload_n 0, 1) := by decide +kernel
theorem dX12_rests_34 : decode cX12_rests 34 = .ok (.iconst 0, 1) := by decide +kernel
theorem dX12_rests_35 : decode cX12_rests 35 = .ok (.iload_n 3, 1) := by decide +kernel
theorem dX12_rests_36 : decode cX12_rests 36 = .ok (.iload_n 1, 1) := by decide +kernel
theorem dX12_rests_37 : decode cX12_rests 37 = .ok (.invokevirtual 359, 3) := by decide +kernel
theorem dX12_rests_40 : decode cX12_rests 40 = .ok (.ifCond .ne 6, 3) := by decide +kernel
theorem dX12_rests_43 : decode cX12_rests 43 = .ok (.goto 79, 3) := by decide +kernel
theorem dX12_rests_46 : decode cX12_rests 46 = .ok (.aload_n 0, 1) := by decide +kernel
theorem dX12_rests_47 : decode cX12_rests 47 = .ok (.iconst 0, 1) := by decide +kernel
theorem dX12_rests_48 : decode cX12_rests 48 = .ok (.iload_n 3, 1) := by decide +kernel
theorem dX12_rests_49 : decode cX12_rests 49 = .ok (.iload_n 1, 1) := by decide +kernel
theorem dX12_rests_50 : decode cX12_rests 50 = .ok (.invokevirtual 376, 3) := by decide +kernel
theorem dX12_rests_53 : decode cX12_rests 53 = .ok (.istore 4, 2) := by decide +kernel
theorem dX12_rests_55 : decode cX12_rests 55 = .ok (.iconst 0, 1) := by decide +kernel
theorem dX12_rests_56 : decode cX12_rests 56 = .ok (.istore 5, 2) := by decide +kernel
theorem dX12_rests_58 : decode cX12_rests 58 = .ok (.iload 5, 2) := by decide +kernel
theorem dX12_rests_60 : decode cX12_rests 60 = .ok (.aload_n 0, 1) := by decide +kernel
theorem dX12_rests_61 : decode cX12_rests 61 = .ok (.invokevirtual 78, 3) := by decide +kernel
theorem dX12_rests_64 : decode cX12_rests 64 = .ok (.if_icmp .gt 58, 3) := by decide +kernel
theorem dX12_rests_67 : decode cX12_rests 67 = .ok (.aload_n 0, 1) := by decide +kernel
theorem dX12_rests_68 : decode cX12_rests 68 = .ok (.iconst 1, 1) := by decide +kernel
theorem dX12_rests_69 : decode cX12_rests 69 = .ok (.iload 5, 2) := by decide +kernel
theorem dX12_rests_71 : decode cX12_rests 71 = .ok (.iload_n 1, 1) := by decide +kernel
theorem dX12_rests_72 : decode cX12_rests 72 = .ok (.invokevirtual 359, 3) := by decide +kernel
theorem dX12_rests_75 : decode cX12_rests 75 = .ok (.ifCond .eq 41, 3) := by decide +kernel
theorem dX12_rests_78 : decode cX12_rests 78 = .ok (.aload_n 0, 1) := by decide +kernel
theorem dX12_rests_79 : decode cX12_rests 79 = .ok (.getfield 40, 3) := by decide +kernel
theorem dX12_rests_82 : decode cX12_rests 82 = .ok (.iload_n 3, 1) := by decide +kernel
theorem dX12_rests_83 : decode cX12_rests 83 = .ok (.iload 5, 2) := by decide +kernel
theorem dX12_rests_85 : decode cX12_rests 85 = .ok (.ior, 1) := by decide +kernel
theorem dX12_rests_86 : decode cX12_rests 86 = .ok (.iaload, 1) := by decide +kernel
theorem dX12_rests_87 : decode cX12_rests 87 = .ok (.iload 4, 2) := by decide +kernel
theorem dX12_rests_89 : decode cX12_rests 89 = .ok (.if_icmp .ne 27, 3) := by decide +kernel
theorem dX12_rests_92 : decode cX12_rests 92 = .ok (.aload_n 0, 1) := by decide +kernel
theorem dX12_rests_93 : decode cX12_rests 93 = .ok (.getfield 40, 3) := by decide +kernel
theorem dX12_rests_96 : decode cX12_rests 96 = .ok (.iload_n 3, 1) := by decide +kernel
theorem dX12_rests_97 : decode cX12_rests 97 = .ok (.iload 5, 2) := by decide +kernel
theorem dX12_rests_99 : decode cX12_rests 99 = .ok (.ior, 1) := by decide +kernel
theorem dX12_rests_100 : decode cX12_rests 100 = .ok (.iaload, 1) := by decide +kernel
theorem dX12_rests_101 : decode cX12_rests 101 = .ok (.ineg, 1) := by decide +kernel
theorem dX12_rests_102 : decode cX12_rests 102 = .ok (.aload_n 0, 1) := by decide +kernel
theorem dX12_rests_103 : decode cX12_rests 103 = .ok (.iconst 1, 1) := by decide +kernel
theorem dX12_rests_104 : decode cX12_rests 104 = .ok (.iload 5, 2) := by decide +kernel
theorem dX12_rests_106 : decode cX12_rests 106 = .ok (.iload_n 1, 1) := by decide +kernel
theorem dX12_rests_107 : decode cX12_rests 107 = .ok (.invokevirtual 376, 3) := by decide +kernel
theorem dX12_rests_110 : decode cX12_rests 110 = .ok (.if_icmp .ne 6, 3) := by decide +kernel
theorem dX12_rests_113 : decode cX12_rests 113 = .ok (.iinc 2 1, 3) := by decide +kernel
theorem dX12_rests_116 : decode cX12_rests 116 = .ok (.iinc 5 1, 3) := by decide +kernel
theorem dX12_rests_119 : decode cX12_rests 119 = .ok (.goto (-61), 3) := by decide +kernel
theorem dX12_rests_122 : decode cX12_rests 122 = .ok (.iinc 3 1, 3) := by decide +kernel
theorem dX12_rests_125 : decode cX12_rests 125 = .ok (.goto (-100), 3) := by decide +kernel
theorem dX12_rests_128 : decode cX12_rests 128 = .ok (.iload_n 2, 1) := by decide +kernel
theorem dX12_rests_129 : decode cX12_rests 129 = .ok (.ireturn, 1) := by decide +kernel
theorem dX12_valueOf_0 : decode cX12_valueOf 0 = .ok (.iload_n 0, 1) := by decide +kernel
theorem dX12_valueOf_1 : decode cX12_valueOf 1 = .ok (.ifCond .le 7, 3) := by decide +kernel
theorem dX12_valueOf_4 : decode cX12_valueOf 4 = .ok (.iconst 1, 1) := by decide +kernel
theorem dX12_valueOf_5 : decode cX12_valueOf 5 = .ok (.goto 12, 3) := by decide +kernel
theorem dX12_valueOf_8 : decode cX12_valueOf 8 = .ok (.iload_n 0, 1) := by decide +kernel
theorem dX12_valueOf_9 : decode cX12_valueOf 9 = .ok (.ifCond .ge 7, 3) := by decide +kernel
theorem dX12_valueOf_12 : decode cX12_valueOf 12 = .ok (.iconst (-1), 1) := by decide +kernel
theorem dX12_valueOf_13 : decode cX12_valueOf 13 = .ok (.goto 4, 3) := by decide +kernel
theorem dX12_valueOf_16 : decode cX12_valueOf 16 = .ok (.iconst 0, 1) := by decide +kernel
theorem dX12_valueOf_17 : decode cX12_valueOf 17 = .ok (.ireturn, 1) := by decide +kernel
theorem dX12_heldBy_0 : decode cX12_heldBy 0 = .ok (.ldc_w 280, 3) := by decide +kernel
theorem dX12_heldBy_3 : decode cX12_heldBy 3 = .ok (.istore_n 2, 1) := by decide +kernel
theorem dX12_heldBy_4 : decode cX12_heldBy 4 = .ok (.iconst 0, 1) := by decide +kernel
theorem dX12_heldBy_5 : decode cX12_heldBy 5 = .ok (.istore_n 3, 1) := by decide +kernel
theorem dX12_heldBy_6 : decode cX12_heldBy 6 = .ok (.iload_n 3, 1) := by decide +kernel
theorem dX12_heldBy_7 : decode cX12_heldBy 7 = .ok (.iload_n 1, 1) := by decide +kernel
theorem dX12_heldBy_8 : decode cX12_heldBy 8 = .ok (.if_icmp .gt 108, 3) := by decide +kernel
theorem dX12_heldBy_11 : decode cX12_heldBy 11 = .ok (.iconst 0, 1) := by decide +kernel
theorem dX12_heldBy_12 : decode cX12_heldBy 12 = .ok (.istore 4, 2) := by decide +kernel
theorem dX12_heldBy_14 : decode cX12_heldBy 14 = .ok (.iload_n 3, 1) := by decide +kernel
theorem dX12_heldBy_15 : decode cX12_heldBy 15 = .ok (.iload 4, 2) := by decide +kernel
theorem dX12_heldBy_17 : decode cX12_heldBy 17 = .ok (.iadd, 1) := by decide +kernel
theorem dX12_heldBy_18 : decode cX12_heldBy 18 = .ok (.iload_n 1, 1) := by decide +kernel
theorem dX12_heldBy_19 : decode cX12_heldBy 19 = .ok (.if_icmp .gt 91, 3) := by decide +kernel
theorem dX12_heldBy_22 : decode cX12_heldBy 22 = .ok (.aload_n 0, 1) := by decide +kernel
theorem dX12_heldBy_23 : decode cX12_heldBy 23 = .ok (.getfield 43, 3) := by decide +kernel
theorem dX12_heldBy_26 : decode cX12_heldBy 26 = .ok (.iconst 0, 1) := by decide +kernel
theorem dX12_heldBy_27 : decode cX12_heldBy 27 = .ok (.iaload, 1) := by decide +kernel
theorem dX12_heldBy_28 : decode cX12_heldBy 28 = .ok (.iload_n 3, 1) := by decide +kernel
theorem dX12_heldBy_29 : decode cX12_heldBy 29 = .ok (.isub, 1) := by decide +kernel
theorem dX12_heldBy_30 : decode cX12_heldBy 30 = .ok (.invokestatic 379, 3) := by decide +kernel
theorem dX12_heldBy_33 : decode cX12_heldBy 33 = .ok (.aload_n 0, 1) := by decide +kernel
theorem dX12_heldBy_34 : decode cX12_heldBy 34 = .ok (.getfield 43, 3) := by decide +kernel
theorem dX12_heldBy_37 : decode cX12_heldBy 37 = .ok (.iconst 1, 1) := by decide +kernel
theorem dX12_heldBy_38 : decode cX12_heldBy 38 = .ok (.iaload, 1) := by decide +kernel
theorem dX12_heldBy_39 : decode cX12_heldBy 39 = .ok (.iload 4, 2) := by decide +kernel
theorem dX12_heldBy_41 : decode cX12_heldBy 41 = .ok (.isub, 1) := by decide +kernel
theorem dX12_heldBy_42 : decode cX12_heldBy 42 = .ok (.invokestatic 379, 3) := by decide +kernel
theorem dX12_heldBy_45 : decode cX12_heldBy 45 = .ok (.iadd, 1) := by decide +kernel
theorem dX12_heldBy_46 : decode cX12_heldBy 46 = .ok (.aload_n 0, 1) := by decide +kernel
theorem dX12_heldBy_47 : decode cX12_heldBy 47 = .ok (.getfield 43, 3) := by decide +kernel
theorem dX12_heldBy_50 : decode cX12_heldBy 50 = .ok (.iconst 2, 1) := by decide +kernel
theorem dX12_heldBy_51 : decode cX12_heldBy 51 = .ok (.iaload, 1) := by decide +kernel
theorem dX12_heldBy_52 : decode cX12_heldBy 52 = .ok (.iload_n 1, 1) := by decide +kernel
theorem dX12_heldBy_53 : decode cX12_heldBy 53 = .ok (.iload_n 3, 1) := by decide +kernel
theorem dX12_heldBy_54 : decode cX12_heldBy 54 = .ok (.isub, 1) := by decide +kernel
theorem dX12_heldBy_55 : decode cX12_heldBy 55 = .ok (.iload 4, 2) := by decide +kernel
theorem dX12_heldBy_57 : decode cX12_heldBy 57 = .ok (.isub, 1) := by decide +kernel
theorem dX12_heldBy_58 : decode cX12_heldBy 58 = .ok (.isub, 1) := by decide +kernel
theorem dX12_heldBy_59 : decode cX12_heldBy 59 = .ok (.invokestatic 379, 3) := by decide +kernel
theorem dX12_heldBy_62 : decode cX12_heldBy 62 = .ok (.iadd, 1) := by decide +kernel
theorem dX12_heldBy_63 : decode cX12_heldBy 63 = .ok (.istore 5, 2) := by decide +kernel
theorem dX12_heldBy_65 : decode cX12_heldBy 65 = .ok (.iload 5, 2) := by decide +kernel
theorem dX12_heldBy_67 : decode cX12_heldBy 67 = .ok (.iload_n 2, 1) := by decide +kernel
theorem dX12_heldBy_68 : decode cX12_heldBy 68 = .ok (.if_icmp .lt 6, 3) := by decide +kernel
theorem dX12_heldBy_71 : decode cX12_heldBy 71 = .ok (.goto 33, 3) := by decide +kernel
theorem dX12_heldBy_74 : decode cX12_heldBy 74 = .ok (.iload 5, 2) := by decide +kernel
theorem dX12_heldBy_76 : decode cX12_heldBy 76 = .ok (.istore_n 2, 1) := by decide +kernel
theorem dX12_heldBy_77 : decode cX12_heldBy 77 = .ok (.aload_n 0, 1) := by decide +kernel
theorem dX12_heldBy_78 : decode cX12_heldBy 78 = .ok (.getfield 49, 3) := by decide +kernel
theorem dX12_heldBy_81 : decode cX12_heldBy 81 = .ok (.iconst 0, 1) := by decide +kernel
theorem dX12_heldBy_82 : decode cX12_heldBy 82 = .ok (.iload_n 3, 1) := by decide +kernel
theorem dX12_heldBy_83 : decode cX12_heldBy 83 = .ok (.iastore, 1) := by decide +kernel
theorem dX12_heldBy_84 : decode cX12_heldBy 84 = .ok (.aload_n 0, 1) := by decide +kernel
theorem dX12_heldBy_85 : decode cX12_heldBy 85 = .ok (.getfield 49, 3) := by decide +kernel
theorem dX12_heldBy_88 : decode cX12_heldBy 88 = .ok (.iconst 1, 1) := by decide +kernel
theorem dX12_heldBy_89 : decode cX12_heldBy 89 = .ok (.iload 4, 2) := by decide +kernel
theorem dX12_heldBy_91 : decode cX12_heldBy 91 = .ok (.iastore, 1) := by decide +kernel
theorem dX12_heldBy_92 : decode cX12_heldBy 92 = .ok (.aload_n 0, 1) := by decide +kernel
theorem dX12_heldBy_93 : decode cX12_heldBy 93 = .ok (.getfield 49, 3) := by decide +kernel
theorem dX12_heldBy_96 : decode cX12_heldBy 96 = .ok (.iconst 2, 1) := by decide +kernel
theorem dX12_heldBy_97 : decode cX12_heldBy 97 = .ok (.iload_n 1, 1) := by decide +kernel
theorem dX12_heldBy_98 : decode cX12_heldBy 98 = .ok (.iload_n 3, 1) := by decide +kernel
theorem dX12_heldBy_99 : decode cX12_heldBy 99 = .ok (.isub, 1) := by decide +kernel
theorem dX12_heldBy_100 : decode cX12_heldBy 100 = .ok (.iload 4, 2) := by decide +kernel
theorem dX12_heldBy_102 : decode cX12_heldBy 102 = .ok (.isub, 1) := by decide +kernel
theorem dX12_heldBy_103 : decode cX12_heldBy 103 = .ok (.iastore, 1) := by decide +kernel
theorem dX12_heldBy_104 : decode cX12_heldBy 104 = .ok (.iinc 4 1, 3) := by decide +kernel
theorem dX12_heldBy_107 : decode cX12_heldBy 107 = .ok (.goto (-93), 3) := by decide +kernel
theorem dX12_heldBy_110 : decode cX12_heldBy 110 = .ok (.iinc 3 1, 3) := by decide +kernel
theorem dX12_heldBy_113 : decode cX12_heldBy 113 = .ok (.goto (-107), 3) := by decide +kernel
theorem dX12_heldBy_116 : decode cX12_heldBy 116 = .ok (.iload_n 2, 1) := by decide +kernel
theorem dX12_heldBy_117 : decode cX12_heldBy 117 = .ok (.ireturn, 1) := by decide +kernel
theorem dX12_holdOf_0 : decode cX12_holdOf 0 = .ok (.ldc_w 372, 3) := by decide +kernel
theorem dX12_holdOf_3 : decode cX12_holdOf 3 = .ok (.istore_n 3, 1) := by decide +kernel
theorem dX12_holdOf_4 : decode cX12_holdOf 4 = .ok (.iconst 0, 1) := by decide +kernel
theorem dX12_holdOf_5 : decode cX12_holdOf 5 = .ok (.istore 4, 2) := by decide +kernel
theorem dX12_holdOf_7 : decode cX12_holdOf 7 = .ok (.iload 4, 2) := by decide +kernel
theorem dX12_holdOf_9 : decode cX12_holdOf 9 = .ok (.iload_n 1, 1) := by decide +kernel
theorem dX12_holdOf_10 : decode cX12_holdOf 10 = .ok (.if_icmp .gt 104, 3) := by decide +kernel
theorem dX12_holdOf_13 : decode cX12_holdOf 13 = .ok (.iconst 0, 1) := by decide +kernel
theorem dX12_holdOf_14 : decode cX12_holdOf 14 = .ok (.istore 5, 2) := by decide +kernel
theorem dX12_holdOf_16 : decode cX12_holdOf 16 = .ok (.iload 4, 2) := by decide +kernel
theorem dX12_holdOf_18 : decode cX12_holdOf 18 = .ok (.iload 5, 2) := by decide +kernel
theorem dX12_holdOf_20 : decode cX12_holdOf 20 = .ok (.iadd, 1) := by decide +kernel
theorem dX12_holdOf_21 : decode cX12_holdOf 21 = .ok (.iload_n 1, 1) := by decide +kernel
theorem dX12_holdOf_22 : decode cX12_holdOf 22 = .ok (.if_icmp .gt 86, 3) := by decide +kernel
theorem dX12_holdOf_25 : decode cX12_holdOf 25 = .ok (.aload_n 0, 1) := by decide +kernel
theorem dX12_holdOf_26 : decode cX12_holdOf 26 = .ok (.getfield 43, 3) := by decide +kernel
theorem dX12_holdOf_29 : decode cX12_holdOf 29 = .ok (.iconst 0, 1) := by decide +kernel
theorem dX12_holdOf_30 : decode cX12_holdOf 30 = .ok (.iload 4, 2) := by decide +kernel
theorem dX12_holdOf_32 : decode cX12_holdOf 32 = .ok (.iastore, 1) := by decide +kernel
theorem dX12_holdOf_33 : decode cX12_holdOf 33 = .ok (.aload_n 0, 1) := by decide +kernel
theorem dX12_holdOf_34 : decode cX12_holdOf 34 = .ok (.getfield 43, 3) := by decide +kernel
theorem dX12_holdOf_37 : decode cX12_holdOf 37 = .ok (.iconst 1, 1) := by decide +kernel
theorem dX12_holdOf_38 : decode cX12_holdOf 38 = .ok (.iload 5, 2) := by decide +kernel
theorem dX12_holdOf_40 : decode cX12_holdOf 40 = .ok (.iastore, 1) := by decide +kernel
theorem dX12_holdOf_41 : decode cX12_holdOf 41 = .ok (.aload_n 0, 1) := by decide +kernel
theorem dX12_holdOf_42 : decode cX12_holdOf 42 = .ok (.getfield 43, 3) := by decide +kernel
theorem dX12_holdOf_45 : decode cX12_holdOf 45 = .ok (.iconst 2, 1) := by decide +kernel
theorem dX12_holdOf_46 : decode cX12_holdOf 46 = .ok (.iload_n 1, 1) := by decide +kernel
theorem dX12_holdOf_47 : decode cX12_holdOf 47 = .ok (.iload 4, 2) := by decide +kernel
theorem dX12_holdOf_49 : decode cX12_holdOf 49 = .ok (.isub, 1) := by decide +kernel
theorem dX12_holdOf_50 : decode cX12_holdOf 50 = .ok (.iload 5, 2) := by decide +kernel
theorem dX12_holdOf_52 : decode cX12_holdOf 52 = .ok (.isub, 1) := by decide +kernel
theorem dX12_holdOf_53 : decode cX12_holdOf 53 = .ok (.iastore, 1) := by decide +kernel
theorem dX12_holdOf_54 : decode cX12_holdOf 54 = .ok (.aload_n 0, 1) := by decide +kernel
theorem dX12_holdOf_55 : decode cX12_holdOf 55 = .ok (.iload_n 2, 1) := by decide +kernel
theorem dX12_holdOf_56 : decode cX12_holdOf 56 = .ok (.invokevirtual 382, 3) := by decide +kernel
theorem dX12_holdOf_59 : decode cX12_holdOf 59 = .ok (.istore 6, 2) := by decide +kernel
theorem dX12_holdOf_61 : decode cX12_holdOf 61 = .ok (.iload 6, 2) := by decide +kernel
theorem dX12_holdOf_63 : decode cX12_holdOf 63 = .ok (.iload_n 3, 1) := by decide +kernel
theorem dX12_holdOf_64 : decode cX12_holdOf 64 = .ok (.if_icmp .gt 6, 3) := by decide +kernel
theorem dX12_holdOf_67 : decode cX12_holdOf 67 = .ok (.goto 35, 3) := by decide +kernel
theorem dX12_holdOf_70 : decode cX12_holdOf 70 = .ok (.iload 6, 2) := by decide +kernel
theorem dX12_holdOf_72 : decode cX12_holdOf 72 = .ok (.istore_n 3, 1) := by decide +kernel
theorem dX12_holdOf_73 : decode cX12_holdOf 73 = .ok (.iconst 0, 1) := by decide +kernel
theorem dX12_holdOf_74 : decode cX12_holdOf 74 = .ok (.istore 7, 2) := by decide +kernel
theorem dX12_holdOf_76 : decode cX12_holdOf 76 = .ok (.iload 7, 2) := by decide +kernel
theorem dX12_holdOf_78 : decode cX12_holdOf 78 = .ok (.iconst 3, 1) := by decide +kernel
theorem dX12_holdOf_79 : decode cX12_holdOf 79 = .ok (.if_icmp .ge 23, 3) := by decide +kernel
theorem dX12_holdOf_82 : decode cX12_holdOf 82 = .ok (.aload_n 0, 1) := by decide +kernel
theorem dX12_holdOf_83 : decode cX12_holdOf 83 = .ok (.getfield 46, 3) := by decide +kernel
theorem dX12_holdOf_86 : decode cX12_holdOf 86 = .ok (.iload 7, 2) := by decide +kernel
theorem dX12_holdOf_88 : decode cX12_holdOf 88 = .ok (.aload_n 0, 1) := by decide +kernel
theorem dX12_holdOf_89 : decode cX12_holdOf 89 = .ok (.getfield 43, 3) := by decide +kernel
theorem dX12_holdOf_92 : decode cX12_holdOf 92 = .ok (.iload 7, 2) := by decide +kernel
theorem dX12_holdOf_94 : decode cX12_holdOf 94 = .ok (.iaload, 1) := by decide +kernel
theorem dX12_holdOf_95 : decode cX12_holdOf 95 = .ok (.iastore, 1) := by decide +kernel
theorem dX12_holdOf_96 : decode cX12_holdOf 96 = .ok (.iinc 7 1, 3) := by decide +kernel
theorem dX12_holdOf_99 : decode cX12_holdOf 99 = .ok (.goto (-23), 3) := by decide +kernel
theorem dX12_holdOf_102 : decode cX12_holdOf 102 = .ok (.iinc 5 1, 3) := by decide +kernel
theorem dX12_holdOf_105 : decode cX12_holdOf 105 = .ok (.goto (-89), 3) := by decide +kernel
theorem dX12_holdOf_108 : decode cX12_holdOf 108 = .ok (.iinc 4 1, 3) := by decide +kernel
theorem dX12_holdOf_111 : decode cX12_holdOf 111 = .ok (.goto (-104), 3) := by decide +kernel
theorem dX12_holdOf_114 : decode cX12_holdOf 114 = .ok (.iconst 0, 1) := by decide +kernel
theorem dX12_holdOf_115 : decode cX12_holdOf 115 = .ok (.istore 4, 2) := by decide +kernel
theorem dX12_holdOf_117 : decode cX12_holdOf 117 = .ok (.iload 4, 2) := by decide +kernel
theorem dX12_holdOf_119 : decode cX12_holdOf 119 = .ok (.iconst 3, 1) := by decide +kernel
theorem dX12_holdOf_120 : decode cX12_holdOf 120 = .ok (.if_icmp .ge 23, 3) := by decide +kernel
theorem dX12_holdOf_123 : decode cX12_holdOf 123 = .ok (.aload_n 0, 1) := by decide +kernel
theorem dX12_holdOf_124 : decode cX12_holdOf 124 = .ok (.getfield 43, 3) := by decide +kernel
theorem dX12_holdOf_127 : decode cX12_holdOf 127 = .ok (.iload 4, 2) := by decide +kernel
theorem dX12_holdOf_129 : decode cX12_holdOf 129 = .ok (.aload_n 0, 1) := by decide +kernel
theorem dX12_holdOf_130 : decode cX12_holdOf 130 = .ok (.getfield 46, 3) := by decide +kernel
theorem dX12_holdOf_133 : decode cX12_holdOf 133 = .ok (.iload 4, 2) := by decide +kernel
theorem dX12_holdOf_135 : decode cX12_holdOf 135 = .ok (.iaload, 1) := by decide +kernel
theorem dX12_holdOf_136 : decode cX12_holdOf 136 = .ok (.iastore, 1) := by decide +kernel
theorem dX12_holdOf_137 : decode cX12_holdOf 137 = .ok (.iinc 4 1, 3) := by decide +kernel
theorem dX12_holdOf_140 : decode cX12_holdOf 140 = .ok (.goto (-23), 3) := by decide +kernel
theorem dX12_holdOf_143 : decode cX12_holdOf 143 = .ok (.aload_n 0, 1) := by decide +kernel
theorem dX12_holdOf_144 : decode cX12_holdOf 144 = .ok (.iload_n 2, 1) := by decide +kernel
theorem dX12_holdOf_145 : decode cX12_holdOf 145 = .ok (.invokevirtual 382, 3) := by decide +kernel
theorem dX12_holdOf_148 : decode cX12_holdOf 148 = .ok (.pop, 1) := by decide +kernel
theorem dX12_holdOf_149 : decode cX12_holdOf 149 = .ok (.iload_n 3, 1) := by decide +kernel
theorem dX12_holdOf_150 : decode cX12_holdOf 150 = .ok (.ireturn, 1) := by decide +kernel
theorem dX12_areMen_0 : decode cX12_areMen 0 = .ok (.iload_n 0, 1) := by decide +kernel
theorem dX12_areMen_1 : decode cX12_areMen 1 = .ok (.i2l, 1) := by decide +kernel
theorem dX12_areMen_2 : decode cX12_areMen 2 = .ok (.lconst 0, 1) := by decide +kernel
theorem dX12_areMen_3 : decode cX12_areMen 3 = .ok (.ldc2_w 385, 3) := by decide +kernel
theorem dX12_areMen_6 : decode cX12_areMen 6 = .ok (.invokestatic 70, 3) := by decide +kernel
theorem dX12_areMen_9 : decode cX12_areMen 9 = .ok (.ifCond .eq 19, 3) := by decide +kernel
theorem dX12_areMen_12 : decode cX12_areMen 12 = .ok (.iload_n 1, 1) := by decide +kernel
theorem dX12_areMen_13 : decode cX12_areMen 13 = .ok (.i2l, 1) := by decide +kernel
theorem dX12_areMen_14 : decode cX12_areMen 14 = .ok (.lconst 0, 1) := by decide +kernel
theorem dX12_areMen_15 : decode cX12_areMen 15 = .ok (.ldc2_w 385, 3) := by decide +kernel
theorem dX12_areMen_18 : decode cX12_areMen 18 = .ok (.invokestatic 70, 3) := by decide +kernel
theorem dX12_areMen_21 : decode cX12_areMen 21 = .ok (.ifCond .eq 7, 3) := by decide +kernel
theorem dX12_areMen_24 : decode cX12_areMen 24 = .ok (.iconst 1, 1) := by decide +kernel
theorem dX12_areMen_25 : decode cX12_areMen 25 = .ok (.goto 4, 3) := by decide +kernel
theorem dX12_areMen_28 : decode cX12_areMen 28 = .ok (.iconst 0, 1) := by decide +kernel
theorem dX12_areMen_29 : decode cX12_areMen 29 = .ok (.ireturn, 1) := by decide +kernel
theorem dX12_hold_0 : decode cX12_hold 0 = .ok (.iload_n 1, 1) := by decide +kernel
theorem dX12_hold_1 : decode cX12_hold 1 = .ok (.iload_n 2, 1) := by decide +kernel
theorem dX12_hold_2 : decode cX12_hold 2 = .ok (.invokestatic 387, 3) := by decide +kernel
theorem dX12_hold_5 : decode cX12_hold 5 = .ok (.ifCond .eq 12, 3) := by decide +kernel
theorem dX12_hold_8 : decode cX12_hold 8 = .ok (.aload_n 0, 1) := by decide +kernel
theorem dX12_hold_9 : decode cX12_hold 9 = .ok (.iload_n 1, 1) := by decide +kernel
theorem dX12_hold_10 : decode cX12_hold 10 = .ok (.iload_n 2, 1) := by decide +kernel
theorem dX12_hold_11 : decode cX12_hold 11 = .ok (.invokevirtual 390, 3) := by decide +kernel
theorem dX12_hold_14 : decode cX12_hold 14 = .ok (.goto 6, 3) := by decide +kernel
theorem dX12_hold_17 : decode cX12_hold 17 = .ok (.sipush (-1000), 3) := by decide +kernel
theorem dX12_hold_20 : decode cX12_hold 20 = .ok (.ireturn, 1) := by decide +kernel
theorem dX12_holds_0 : decode cX12_holds 0 = .ok (.iload_n 1, 1) := by decide +kernel
theorem dX12_holds_1 : decode cX12_holds 1 = .ok (.iload_n 2, 1) := by decide +kernel
theorem dX12_holds_2 : decode cX12_holds 2 = .ok (.invokestatic 387, 3) := by decide +kernel
theorem dX12_holds_5 : decode cX12_holds 5 = .ok (.ifCond .eq 15, 3) := by decide +kernel
theorem dX12_holds_8 : decode cX12_holds 8 = .ok (.iload_n 3, 1) := by decide +kernel
theorem dX12_holds_9 : decode cX12_holds 9 = .ok (.i2l, 1) := by decide +kernel
theorem dX12_holds_10 : decode cX12_holds 10 = .ok (.lconst 0, 1) := by decide +kernel
theorem dX12_holds_11 : decode cX12_holds 11 = .ok (.ldc2_w 68, 3) := by decide +kernel
theorem dX12_holds_14 : decode cX12_holds 14 = .ok (.invokestatic 70, 3) := by decide +kernel
theorem dX12_holds_17 : decode cX12_holds 17 = .ok (.ifCond .ne 6, 3) := by decide +kernel
theorem dX12_holds_20 : decode cX12_holds 20 = .ok (.bipush (-2), 2) := by decide +kernel
theorem dX12_holds_22 : decode cX12_holds 22 = .ok (.ireturn, 1) := by decide +kernel
theorem dX12_holds_23 : decode cX12_holds 23 = .ok (.aload_n 0, 1) := by decide +kernel
theorem dX12_holds_24 : decode cX12_holds 24 = .ok (.iload_n 1, 1) := by decide +kernel
theorem dX12_holds_25 : decode cX12_holds 25 = .ok (.iload_n 2, 1) := by decide +kernel
theorem dX12_holds_26 : decode cX12_holds 26 = .ok (.invokevirtual 390, 3) := by decide +kernel
theorem dX12_holds_29 : decode cX12_holds 29 = .ok (.pop, 1) := by decide +kernel
theorem dX12_holds_30 : decode cX12_holds 30 = .ok (.aload_n 0, 1) := by decide +kernel
theorem dX12_holds_31 : decode cX12_holds 31 = .ok (.getfield 46, 3) := by decide +kernel
theorem dX12_holds_34 : decode cX12_holds 34 = .ok (.iload_n 3, 1) := by decide +kernel
theorem dX12_holds_35 : decode cX12_holds 35 = .ok (.iaload, 1) := by decide +kernel
theorem dX12_holds_36 : decode cX12_holds 36 = .ok (.ireturn, 1) := by decide +kernel
theorem dX12_reply_0 : decode cX12_reply 0 = .ok (.iload_n 1, 1) := by decide +kernel
theorem dX12_reply_1 : decode cX12_reply 1 = .ok (.iload_n 2, 1) := by decide +kernel
theorem dX12_reply_2 : decode cX12_reply 2 = .ok (.invokestatic 387, 3) := by decide +kernel
theorem dX12_reply_5 : decode cX12_reply 5 = .ok (.ifCond .eq 15, 3) := by decide +kernel
theorem dX12_reply_8 : decode cX12_reply 8 = .ok (.iload_n 3, 1) := by decide +kernel
theorem dX12_reply_9 : decode cX12_reply 9 = .ok (.i2l, 1) := by decide +kernel
theorem dX12_reply_10 : decode cX12_reply 10 = .ok (.lconst 0, 1) := by decide +kernel
theorem dX12_reply_11 : decode cX12_reply 11 = .ok (.ldc2_w 68, 3) := by decide +kernel
theorem dX12_reply_14 : decode cX12_reply 14 = .ok (.invokestatic 70, 3) := by decide +kernel
theorem dX12_reply_17 : decode cX12_reply 17 = .ok (.ifCond .ne 6, 3) := by decide +kernel
theorem dX12_reply_20 : decode cX12_reply 20 = .ok (.bipush (-2), 2) := by decide +kernel
theorem dX12_reply_22 : decode cX12_reply 22 = .ok (.ireturn, 1) := by decide +kernel
theorem dX12_reply_23 : decode cX12_reply 23 = .ok (.aload_n 0, 1) := by decide +kernel
theorem dX12_reply_24 : decode cX12_reply 24 = .ok (.iload_n 1, 1) := by decide +kernel
theorem dX12_reply_25 : decode cX12_reply 25 = .ok (.iload_n 2, 1) := by decide +kernel
theorem dX12_reply_26 : decode cX12_reply 26 = .ok (.invokevirtual 390, 3) := by decide +kernel
theorem dX12_reply_29 : decode cX12_reply 29 = .ok (.pop, 1) := by decide +kernel
theorem dX12_reply_30 : decode cX12_reply 30 = .ok (.aload_n 0, 1) := by decide +kernel
theorem dX12_reply_31 : decode cX12_reply 31 = .ok (.getfield 49, 3) := by decide +kernel
theorem dX12_reply_34 : decode cX12_reply 34 = .ok (.iload_n 3, 1) := by decide +kernel
theorem dX12_reply_35 : decode cX12_reply 35 = .ok (.iaload, 1) := by decide +kernel
theorem dX12_reply_36 : decode cX12_reply 36 = .ok (.ireturn, 1) := by decide +kernel
theorem dX12_holdsBy_0 : decode cX12_holdsBy 0 = .ok (.iconst 0, 1) := by decide +kernel
theorem dX12_holdsBy_1 : decode cX12_holdsBy 1 = .ok (.istore_n 3, 1) := by decide +kernel
theorem dX12_holdsBy_2 : decode cX12_holdsBy 2 = .ok (.iload_n 3, 1) := by decide +kernel
theorem dX12_holdsBy_3 : decode cX12_holdsBy 3 = .ok (.aload_n 0, 1) := by decide +kernel
theorem dX12_holdsBy_4 : decode cX12_holdsBy 4 = .ok (.getfield 9, 3) := by decide +kernel
theorem dX12_holdsBy_7 : decode cX12_holdsBy 7 = .ok (.bipush 7, 2) := by decide +kernel
theorem dX12_holdsBy_9 : decode cX12_holdsBy 9 = .ok (.iaload, 1) := by decide +kernel
theorem dX12_holdsBy_10 : decode cX12_holdsBy 10 = .ok (.if_icmp .ge 75, 3) := by decide +kernel
theorem dX12_holdsBy_13 : decode cX12_holdsBy 13 = .ok (.aload_n 0, 1) := by decide +kernel
theorem dX12_holdsBy_14 : decode cX12_holdsBy 14 = .ok (.getfield 9, 3) := by decide +kernel
theorem dX12_holdsBy_17 : decode cX12_holdsBy 17 = .ok (.bipush 107, 2) := by decide +kernel
theorem dX12_holdsBy_19 : decode cX12_holdsBy 19 = .ok (.iconst 2, 1) := by decide +kernel
theorem dX12_holdsBy_20 : decode cX12_holdsBy 20 = .ok (.iload_n 3, 1) := by decide +kernel
theorem dX12_holdsBy_21 : decode cX12_holdsBy 21 = .ok (.imul, 1) := by decide +kernel
theorem dX12_holdsBy_22 : decode cX12_holdsBy 22 = .ok (.iadd, 1) := by decide +kernel
theorem dX12_holdsBy_23 : decode cX12_holdsBy 23 = .ok (.iaload, 1) := by decide +kernel
theorem dX12_holdsBy_24 : decode cX12_holdsBy 24 = .ok (.iconst 1, 1) := by decide +kernel
theorem dX12_holdsBy_25 : decode cX12_holdsBy 25 = .ok (.iadd, 1) := by decide +kernel
theorem dX12_holdsBy_26 : decode cX12_holdsBy 26 = .ok (.iload_n 2, 1) := by decide +kernel
theorem dX12_holdsBy_27 : decode cX12_holdsBy 27 = .ok (.iconst 2, 1) := by decide +kernel
theorem dX12_holdsBy_28 : decode cX12_holdsBy 28 = .ok (.iload_n 3, 1) := by decide +kernel
theorem dX12_holdsBy_29 : decode cX12_holdsBy 29 = .ok (.imul, 1) := by decide +kernel
theorem dX12_holdsBy_30 : decode cX12_holdsBy 30 = .ok (.invokestatic 86, 3) := by decide +kernel
theorem dX12_holdsBy_33 : decode cX12_holdsBy 33 = .ok (.isub, 1) := by decide +kernel
theorem dX12_holdsBy_34 : decode cX12_holdsBy 34 = .ok (.istore 4, 2) := by decide +kernel
theorem dX12_holdsBy_36 : decode cX12_holdsBy 36 = .ok (.aload_n 0, 1) := by decide +kernel
theorem dX12_holdsBy_37 : decode cX12_holdsBy 37 = .ok (.getfield 9, 3) := by decide +kernel
theorem dX12_holdsBy_40 : decode cX12_holdsBy 40 = .ok (.bipush 107, 2) := by decide +kernel
theorem dX12_holdsBy_42 : decode cX12_holdsBy 42 = .ok (.iconst 2, 1) := by decide +kernel
theorem dX12_holdsBy_43 : decode cX12_holdsBy 43 = .ok (.iload_n 3, 1) := by decide +kernel
theorem dX12_holdsBy_44 : decode cX12_holdsBy 44 = .ok (.imul, 1) := by decide +kernel
theorem dX12_holdsBy_45 : decode cX12_holdsBy 45 = .ok (.iadd, 1) := by decide +kernel
theorem dX12_holdsBy_46 : decode cX12_holdsBy 46 = .ok (.iconst 1, 1) := by decide +kernel
theorem dX12_holdsBy_47 : decode cX12_holdsBy 47 = .ok (.iadd, 1) := by decide +kernel
theorem dX12_holdsBy_48 : decode cX12_holdsBy 48 = .ok (.iaload, 1) := by decide +kernel
theorem dX12_holdsBy_49 : decode cX12_holdsBy 49 = .ok (.iconst 1, 1) := by decide +kernel
theorem dX12_holdsBy_50 : decode cX12_holdsBy 50 = .ok (.isub, 1) := by decide +kernel
theorem dX12_holdsBy_51 : decode cX12_holdsBy 51 = .ok (.iload_n 2, 1) := by decide +kernel
theorem dX12_holdsBy_52 : decode cX12_holdsBy 52 = .ok (.iconst 2, 1) := by decide +kernel
theorem dX12_holdsBy_53 : decode cX12_holdsBy 53 = .ok (.iload_n 3, 1) := by decide +kernel
theorem dX12_holdsBy_54 : decode cX12_holdsBy 54 = .ok (.imul, 1) := by decide +kernel
theorem dX12_holdsBy_55 : decode cX12_holdsBy 55 = .ok (.iconst 1, 1) := by decide +kernel
theorem dX12_holdsBy_56 : decode cX12_holdsBy 56 = .ok (.iadd, 1) := by decide +kernel
theorem dX12_holdsBy_57 : decode cX12_holdsBy 57 = .ok (.invokestatic 86, 3) := by decide +kernel
theorem dX12_holdsBy_60 : decode cX12_holdsBy 60 = .ok (.iadd, 1) := by decide +kernel
theorem dX12_holdsBy_61 : decode cX12_holdsBy 61 = .ok (.istore 5, 2) := by decide +kernel
theorem dX12_holdsBy_63 : decode cX12_holdsBy 63 = .ok (.iload_n 1, 1) := by decide +kernel
theorem dX12_holdsBy_64 : decode cX12_holdsBy 64 = .ok (.i2l, 1) := by decide +kernel
theorem dX12_holdsBy_65 : decode cX12_holdsBy 65 = .ok (.iload 4, 2) := by decide +kernel
theorem dX12_holdsBy_67 : decode cX12_holdsBy 67 = .ok (.i2l, 1) := by decide +kernel
theorem dX12_holdsBy_68 : decode cX12_holdsBy 68 = .ok (.iload 5, 2) := by decide +kernel
theorem dX12_holdsBy_70 : decode cX12_holdsBy 70 = .ok (.i2l, 1) := by decide +kernel
theorem dX12_holdsBy_71 : decode cX12_holdsBy 71 = .ok (.invokestatic 70, 3) := by decide +kernel
theorem dX12_holdsBy_74 : decode cX12_holdsBy 74 = .ok (.ifCond .eq 5, 3) := by decide +kernel
theorem dX12_holdsBy_77 : decode cX12_holdsBy 77 = .ok (.iconst 0, 1) := by decide +kernel
theorem dX12_holdsBy_78 : decode cX12_holdsBy 78 = .ok (.ireturn, 1) := by decide +kernel
theorem dX12_holdsBy_79 : decode cX12_holdsBy 79 = .ok (.iinc 3 1, 3) := by decide +kernel
theorem dX12_holdsBy_82 : decode cX12_holdsBy 82 = .ok (.goto (-80), 3) := by decide +kernel
theorem dX12_holdsBy_85 : decode cX12_holdsBy 85 = .ok (.iconst 1, 1) := by decide +kernel
theorem dX12_holdsBy_86 : decode cX12_holdsBy 86 = .ok (.ireturn, 1) := by decide +kernel
theorem dX12_allReadings_0 : decode cX12_allReadings 0 = .ok (.iconst 1, 1) := by decide +kernel
theorem dX12_allReadings_1 : decode cX12_allReadings 1 = .ok (.iconst 2, 1) := by decide +kernel
theorem dX12_allReadings_2 : decode cX12_allReadings 2 = .ok (.aload_n 0, 1) := by decide +kernel
theorem dX12_allReadings_3 : decode cX12_allReadings 3 = .ok (.getfield 9, 3) := by decide +kernel
theorem dX12_allReadings_6 : decode cX12_allReadings 6 = .ok (.bipush 7, 2) := by decide +kernel
theorem dX12_allReadings_8 : decode cX12_allReadings 8 = .ok (.iaload, 1) := by decide +kernel
theorem dX12_allReadings_9 : decode cX12_allReadings 9 = .ok (.imul, 1) := by decide +kernel
theorem dX12_allReadings_10 : decode cX12_allReadings 10 = .ok (.ishl, 1) := by decide +kernel
theorem dX12_allReadings_11 : decode cX12_allReadings 11 = .ok (.ireturn, 1) := by decide +kernel
theorem dX12_readingsOf_0 : decode cX12_readingsOf 0 = .ok (.iconst 0, 1) := by decide +kernel
theorem dX12_readingsOf_1 : decode cX12_readingsOf 1 = .ok (.istore_n 2, 1) := by decide +kernel
theorem dX12_readingsOf_2 : decode cX12_readingsOf 2 = .ok (.iconst 0, 1) := by decide +kernel
theorem dX12_readingsOf_3 : decode cX12_readingsOf 3 = .ok (.istore_n 3, 1) := by decide +kernel
theorem dX12_readingsOf_4 : decode cX12_readingsOf 4 = .ok (.iload_n 3, 1) := by decide +kernel
theorem dX12_readingsOf_5 : decode cX12_readingsOf 5 = .ok (.aload_n 0, 1) := by decide +kernel
theorem dX12_readingsOf_6 : decode cX12_readingsOf 6 = .ok (.invokevirtual 393, 3) := by decide +kernel
theorem dX12_readingsOf_9 : decode cX12_readingsOf 9 = .ok (.if_icmp .ge 26, 3) := by decide +kernel
theorem dX12_readingsOf_12 : decode cX12_readingsOf 12 = .ok (.iload_n 2, 1) := by decide +kernel
theorem dX12_readingsOf_13 : decode cX12_readingsOf 13 = .ok (.aload_n 0, 1) := by decide +kernel
theorem dX12_readingsOf_14 : decode cX12_readingsOf 14 = .ok (.iload_n 1, 1) := by decide +kernel
theorem dX12_readingsOf_15 : decode cX12_readingsOf 15 = .ok (.iload_n 3, 1) := by decide +kernel
theorem dX12_readingsOf_16 : decode cX12_readingsOf 16 = .ok (.invokevirtual 396, 3) := by decide +kernel
theorem dX12_readingsOf_19 : decode cX12_readingsOf 19 = .ok (.ifCond .eq 7, 3) := by decide +kernel
theorem dX12_readingsOf_22 : decode cX12_readingsOf 22 = .ok (.iconst 1, 1) := by decide +kernel
theorem dX12_readingsOf_23 : decode cX12_readingsOf 23 = .ok (.goto 4, 3) := by decide +kernel
theorem dX12_readingsOf_26 : decode cX12_readingsOf 26 = .ok (.iconst 0, 1) := by decide +kernel
theorem dX12_readingsOf_27 : decode cX12_readingsOf 27 = .ok (.iadd, 1) := by decide +kernel
theorem dX12_readingsOf_28 : decode cX12_readingsOf 28 = .ok (.istore_n 2, 1) := by decide +kernel
theorem dX12_readingsOf_29 : decode cX12_readingsOf 29 = .ok (.iinc 3 1, 3) := by decide +kernel
theorem dX12_readingsOf_32 : decode cX12_readingsOf 32 = .ok (.goto (-28), 3) := by decide +kernel
theorem dX12_readingsOf_35 : decode cX12_readingsOf 35 = .ok (.iload_n 2, 1) := by decide +kernel
theorem dX12_readingsOf_36 : decode cX12_readingsOf 36 = .ok (.ireturn, 1) := by decide +kernel
theorem dX12_isSigned_0 : decode cX12_isSigned 0 = .ok (.aload_n 0, 1) := by decide +kernel
theorem dX12_isSigned_1 : decode cX12_isSigned 1 = .ok (.invokevirtual 74, 3) := by decide +kernel
theorem dX12_isSigned_4 : decode cX12_isSigned 4 = .ok (.ifCond .eq 19, 3) := by decide +kernel
theorem dX12_isSigned_7 : decode cX12_isSigned 7 = .ok (.iload_n 1, 1) := by decide +kernel
theorem dX12_isSigned_8 : decode cX12_isSigned 8 = .ok (.i2l, 1) := by decide +kernel
theorem dX12_isSigned_9 : decode cX12_isSigned 9 = .ok (.lconst 0, 1) := by decide +kernel
theorem dX12_isSigned_10 : decode cX12_isSigned 10 = .ok (.ldc2_w 399, 3) := by decide +kernel
theorem dX12_isSigned_13 : decode cX12_isSigned 13 = .ok (.invokestatic 70, 3) := by decide +kernel
theorem dX12_isSigned_16 : decode cX12_isSigned 16 = .ok (.ifCond .eq 7, 3) := by decide +kernel
theorem dX12_isSigned_19 : decode cX12_isSigned 19 = .ok (.iconst 1, 1) := by decide +kernel
theorem dX12_isSigned_20 : decode cX12_isSigned 20 = .ok (.goto 4, 3) := by decide +kernel
theorem dX12_isSigned_23 : decode cX12_isSigned 23 = .ok (.iconst 0, 1) := by decide +kernel
theorem dX12_isSigned_24 : decode cX12_isSigned 24 = .ok (.ireturn, 1) := by decide +kernel
theorem dX12_readings_0 : decode cX12_readings 0 = .ok (.aload_n 0, 1) := by decide +kernel
theorem dX12_readings_1 : decode cX12_readings 1 = .ok (.iload_n 1, 1) := by decide +kernel
theorem dX12_readings_2 : decode cX12_readings 2 = .ok (.invokevirtual 401, 3) := by decide +kernel
theorem dX12_readings_5 : decode cX12_readings 5 = .ok (.ifCond .eq 11, 3) := by decide +kernel
theorem dX12_readings_8 : decode cX12_readings 8 = .ok (.aload_n 0, 1) := by decide +kernel
theorem dX12_readings_9 : decode cX12_readings 9 = .ok (.iload_n 1, 1) := by decide +kernel
theorem dX12_readings_10 : decode cX12_readings 10 = .ok (.invokevirtual 404, 3) := by decide +kernel
theorem dX12_readings_13 : decode cX12_readings 13 = .ok (.goto 5, 3) := by decide +kernel
theorem dX12_readings_16 : decode cX12_readings 16 = .ok (.bipush (-2), 2) := by decide +kernel
theorem dX12_readings_18 : decode cX12_readings 18 = .ok (.ireturn, 1) := by decide +kernel
theorem dX12_loopholes_0 : decode cX12_loopholes 0 = .ok (.aload_n 0, 1) := by decide +kernel
theorem dX12_loopholes_1 : decode cX12_loopholes 1 = .ok (.invokevirtual 74, 3) := by decide +kernel
theorem dX12_loopholes_4 : decode cX12_loopholes 4 = .ok (.ifCond .ne 7, 3) := by decide +kernel
theorem dX12_loopholes_7 : decode cX12_loopholes 7 = .ok (.ldc2_w 275, 3) := by decide +kernel
theorem dX12_loopholes_10 : decode cX12_loopholes 10 = .ok (.lreturn, 1) := by decide +kernel
theorem dX12_loopholes_11 : decode cX12_loopholes 11 = .ok (.lconst 0, 1) := by decide +kernel
theorem dX12_loopholes_12 : decode cX12_loopholes 12 = .ok (.lstore_n 1, 1) := by decide +kernel
theorem dX12_loopholes_13 : decode cX12_loopholes 13 = .ok (.iconst 0, 1) := by decide +kernel
theorem dX12_loopholes_14 : decode cX12_loopholes 14 = .ok (.istore_n 3, 1) := by decide +kernel
theorem dX12_loopholes_15 : decode cX12_loopholes 15 = .ok (.iload_n 3, 1) := by decide +kernel
theorem dX12_loopholes_16 : decode cX12_loopholes 16 = .ok (.bipush 60, 2) := by decide +kernel
theorem dX12_loopholes_18 : decode cX12_loopholes 18 = .ok (.if_icmp .ge 39, 3) := by decide +kernel
theorem dX12_loopholes_21 : decode cX12_loopholes 21 = .ok (.lload_n 1, 1) := by decide +kernel
theorem dX12_loopholes_22 : decode cX12_loopholes 22 = .ok (.aload_n 0, 1) := by decide +kernel
theorem dX12_loopholes_23 : decode cX12_loopholes 23 = .ok (.iload_n 3, 1) := by decide +kernel
theorem dX12_loopholes_24 : decode cX12_loopholes 24 = .ok (.invokevirtual 404, 3) := by decide +kernel
theorem dX12_loopholes_27 : decode cX12_loopholes 27 = .ok (.i2l, 1) := by decide +kernel
theorem dX12_loopholes_28 : decode cX12_loopholes 28 = .ok (.lconst 1, 1) := by decide +kernel
theorem dX12_loopholes_29 : decode cX12_loopholes 29 = .ok (.aload_n 0, 1) := by decide +kernel
theorem dX12_loopholes_30 : decode cX12_loopholes 30 = .ok (.invokevirtual 393, 3) := by decide +kernel
theorem dX12_loopholes_33 : decode cX12_loopholes 33 = .ok (.iconst 1, 1) := by decide +kernel
theorem dX12_loopholes_34 : decode cX12_loopholes 34 = .ok (.isub, 1) := by decide +kernel
theorem dX12_loopholes_35 : decode cX12_loopholes 35 = .ok (.i2l, 1) := by decide +kernel
theorem dX12_loopholes_36 : decode cX12_loopholes 36 = .ok (.invokestatic 70, 3) := by decide +kernel
theorem dX12_loopholes_39 : decode cX12_loopholes 39 = .ok (.ifCond .eq 9, 3) := by decide +kernel
theorem dX12_loopholes_42 : decode cX12_loopholes 42 = .ok (.lconst 1, 1) := by decide +kernel
theorem dX12_loopholes_43 : decode cX12_loopholes 43 = .ok (.iload_n 3, 1) := by decide +kernel
theorem dX12_loopholes_44 : decode cX12_loopholes 44 = .ok (.lshl, 1) := by decide +kernel
theorem dX12_loopholes_45 : decode cX12_loopholes 45 = .ok (.goto 4, 3) := by decide +kernel
theorem dX12_loopholes_48 : decode cX12_loopholes 48 = .ok (.lconst 0, 1) := by decide +kernel
theorem dX12_loopholes_49 : decode cX12_loopholes 49 = .ok (.lor, 1) := by decide +kernel
theorem dX12_loopholes_50 : decode cX12_loopholes 50 = .ok (.lstore_n 1, 1) := by decide +kernel
theorem dX12_loopholes_51 : decode cX12_loopholes 51 = .ok (.iinc 3 1, 3) := by decide +kernel
theorem dX12_loopholes_54 : decode cX12_loopholes 54 = .ok (.goto (-39), 3) := by decide +kernel
theorem dX12_loopholes_57 : decode cX12_loopholes 57 = .ok (.lload_n 1, 1) := by decide +kernel
theorem dX12_loopholes_58 : decode cX12_loopholes 58 = .ok (.lreturn, 1) := by decide +kernel
theorem dX12_closedOf_0 : decode cX12_closedOf 0 = .ok (.iconst (-1), 1) := by decide +kernel
theorem dX12_closedOf_1 : decode cX12_closedOf 1 = .ok (.istore_n 2, 1) := by decide +kernel
theorem dX12_closedOf_2 : decode cX12_closedOf 2 = .ok (.iconst 0, 1) := by decide +kernel
theorem dX12_closedOf_3 : decode cX12_closedOf 3 = .ok (.istore_n 3, 1) := by decide +kernel
theorem dX12_closedOf_4 : decode cX12_closedOf 4 = .ok (.iload_n 3, 1) := by decide +kernel
theorem dX12_closedOf_5 : decode cX12_closedOf 5 = .ok (.aload_n 0, 1) := by decide +kernel
theorem dX12_closedOf_6 : decode cX12_closedOf 6 = .ok (.invokevirtual 393, 3) := by decide +kernel
theorem dX12_closedOf_9 : decode cX12_closedOf 9 = .ok (.if_icmp .ge 91, 3) := by decide +kernel
theorem dX12_closedOf_12 : decode cX12_closedOf 12 = .ok (.iload_n 2, 1) := by decide +kernel
theorem dX12_closedOf_13 : decode cX12_closedOf 13 = .ok (.iconst (-1), 1) := by decide +kernel
theorem dX12_closedOf_14 : decode cX12_closedOf 14 = .ok (.if_icmp .eq 17, 3) := by decide +kernel
theorem dX12_closedOf_17 : decode cX12_closedOf 17 = .ok (.iload_n 3, 1) := by decide +kernel
theorem dX12_closedOf_18 : decode cX12_closedOf 18 = .ok (.invokestatic 281, 3) := by decide +kernel
theorem dX12_closedOf_21 : decode cX12_closedOf 21 = .ok (.iload_n 2, 1) := by decide +kernel
theorem dX12_closedOf_22 : decode cX12_closedOf 22 = .ok (.invokestatic 281, 3) := by decide +kernel
theorem dX12_closedOf_25 : decode cX12_closedOf 25 = .ok (.if_icmp .lt 6, 3) := by decide +kernel
theorem dX12_closedOf_28 : decode cX12_closedOf 28 = .ok (.goto 66, 3) := by decide +kernel
theorem dX12_closedOf_31 : decode cX12_closedOf 31 = .ok (.iconst 1, 1) := by decide +kernel
theorem dX12_closedOf_32 : decode cX12_closedOf 32 = .ok (.istore 4, 2) := by decide +kernel
theorem dX12_closedOf_34 : decode cX12_closedOf 34 = .ok (.iconst 0, 1) := by decide +kernel
theorem dX12_closedOf_35 : decode cX12_closedOf 35 = .ok (.istore 5, 2) := by decide +kernel
theorem dX12_closedOf_37 : decode cX12_closedOf 37 = .ok (.iload 5, 2) := by decide +kernel
theorem dX12_closedOf_39 : decode cX12_closedOf 39 = .ok (.aload_n 0, 1) := by decide +kernel
theorem dX12_closedOf_40 : decode cX12_closedOf 40 = .ok (.invokevirtual 393, 3) := by decide +kernel
theorem dX12_closedOf_43 : decode cX12_closedOf 43 = .ok (.if_icmp .ge 40, 3) := by decide +kernel
theorem dX12_closedOf_46 : decode cX12_closedOf 46 = .ok (.iload 4, 2) := by decide +kernel
theorem dX12_closedOf_48 : decode cX12_closedOf 48 = .ok (.ifCond .eq 35, 3) := by decide +kernel
theorem dX12_closedOf_51 : decode cX12_closedOf 51 = .ok (.iload_n 3, 1) := by decide +kernel
theorem dX12_closedOf_52 : decode cX12_closedOf 52 = .ok (.iload 5, 2) := by decide +kernel
theorem dX12_closedOf_54 : decode cX12_closedOf 54 = .ok (.iconst (-1), 1) := by decide +kernel
theorem dX12_closedOf_55 : decode cX12_closedOf 55 = .ok (.ixor, 1) := by decide +kernel
theorem dX12_closedOf_56 : decode cX12_closedOf 56 = .ok (.iand, 1) := by decide +kernel
theorem dX12_closedOf_57 : decode cX12_closedOf 57 = .ok (.ifCond .ne 13, 3) := by decide +kernel
theorem dX12_closedOf_60 : decode cX12_closedOf 60 = .ok (.aload_n 0, 1) := by decide +kernel
theorem dX12_closedOf_61 : decode cX12_closedOf 61 = .ok (.iload_n 1, 1) := by decide +kernel
theorem dX12_closedOf_62 : decode cX12_closedOf 62 = .ok (.iload 5, 2) := by decide +kernel
theorem dX12_closedOf_64 : decode cX12_closedOf 64 = .ok (.invokevirtual 396, 3) := by decide +kernel
theorem dX12_closedOf_67 : decode cX12_closedOf 67 = .ok (.ifCond .ne 7, 3) := by decide +kernel
theorem dX12_closedOf_70 : decode cX12_closedOf 70 = .ok (.iconst 1, 1) := by decide +kernel
theorem dX12_closedOf_71 : decode cX12_closedOf 71 = .ok (.goto 4, 3) := by decide +kernel
theorem dX12_closedOf_74 : decode cX12_closedOf 74 = .ok (.iconst 0, 1) := by decide +kernel
theorem dX12_closedOf_75 : decode cX12_closedOf 75 = .ok (.istore 4, 2) := by decide +kernel
theorem dX12_closedOf_77 : decode cX12_closedOf 77 = .ok (.iinc 5 1, 3) := by decide +kernel
theorem dX12_closedOf_80 : decode cX12_closedOf 80 = .ok (.goto (-43), 3) := by decide +kernel
theorem dX12_closedOf_83 : decode cX12_closedOf 83 = .ok (.iload 4, 2) := by decide +kernel
theorem dX12_closedOf_85 : decode cX12_closedOf 85 = .ok (.ifCond .eq 7, 3) := by decide +kernel
theorem dX12_closedOf_88 : decode cX12_closedOf 88 = .ok (.iload_n 3, 1) := by decide +kernel
theorem dX12_closedOf_89 : decode cX12_closedOf 89 = .ok (.goto 4, 3) := by decide +kernel
theorem dX12_closedOf_92 : decode cX12_closedOf 92 = .ok (.iload_n 2, 1) := by decide +kernel
theorem dX12_closedOf_93 : decode cX12_closedOf 93 = .ok (.istore_n 2, 1) := by decide +kernel
theorem dX12_closedOf_94 : decode cX12_closedOf 94 = .ok (.iinc 3 1, 3) := by decide +kernel
theorem dX12_closedOf_97 : decode cX12_closedOf 97 = .ok (.goto (-93), 3) := by decide +kernel
theorem dX12_closedOf_100 : decode cX12_closedOf 100 = .ok (.iload_n 2, 1) := by decide +kernel
theorem dX12_closedOf_101 : decode cX12_closedOf 101 = .ok (.ireturn, 1) := by decide +kernel
theorem dX12_close_0 : decode cX12_close 0 = .ok (.aload_n 0, 1) := by decide +kernel
theorem dX12_close_1 : decode cX12_close 1 = .ok (.iload_n 1, 1) := by decide +kernel
theorem dX12_close_2 : decode cX12_close 2 = .ok (.invokevirtual 401, 3) := by decide +kernel
theorem dX12_close_5 : decode cX12_close 5 = .ok (.ifCond .ne 6, 3) := by decide +kernel
theorem dX12_close_8 : decode cX12_close 8 = .ok (.bipush (-2), 2) := by decide +kernel
theorem dX12_close_10 : decode cX12_close 10 = .ok (.ireturn, 1) := by decide +kernel
theorem dX12_close_11 : decode cX12_close 11 = .ok (.aload_n 0, 1) := by decide +kernel
theorem dX12_close_12 : decode cX12_close 12 = .ok (.iload_n 1, 1) := by decide +kernel
theorem dX12_close_13 : decode cX12_close 13 = .ok (.invokevirtual 407, 3) := by decide +kernel
theorem dX12_close_16 : decode cX12_close 16 = .ok (.istore_n 2, 1) := by decide +kernel
theorem dX12_close_17 : decode cX12_close 17 = .ok (.iload_n 2, 1) := by decide +kernel
theorem dX12_close_18 : decode cX12_close 18 = .ok (.iconst (-1), 1) := by decide +kernel
theorem dX12_close_19 : decode cX12_close 19 = .ok (.if_icmp .ne 7, 3) := by decide +kernel
theorem dX12_close_22 : decode cX12_close 22 = .ok (.iconst (-1), 1) := by decide +kernel
theorem dX12_close_23 : decode cX12_close 23 = .ok (.goto 7, 3) := by decide +kernel
theorem dX12_close_26 : decode cX12_close 26 = .ok (.iload_n 2, 1) := by decide +kernel
theorem dX12_close_27 : decode cX12_close 27 = .ok (.invokestatic 281, 3) := by decide +kernel
theorem dX12_close_30 : decode cX12_close 30 = .ok (.ireturn, 1) := by decide +kernel
theorem dX12_closed_0 : decode cX12_closed 0 = .ok (.aload_n 0, 1) := by decide +kernel
theorem dX12_closed_1 : decode cX12_closed 1 = .ok (.iload_n 1, 1) := by decide +kernel
theorem dX12_closed_2 : decode cX12_closed 2 = .ok (.invokevirtual 401, 3) := by decide +kernel
theorem dX12_closed_5 : decode cX12_closed 5 = .ok (.ifCond .eq 11, 3) := by decide +kernel
theorem dX12_closed_8 : decode cX12_closed 8 = .ok (.aload_n 0, 1) := by decide +kernel
theorem dX12_closed_9 : decode cX12_closed 9 = .ok (.iload_n 1, 1) := by decide +kernel
theorem dX12_closed_10 : decode cX12_closed 10 = .ok (.invokevirtual 407, 3) := by decide +kernel
theorem dX12_closed_13 : decode cX12_closed 13 = .ok (.goto 5, 3) := by decide +kernel
theorem dX12_closed_16 : decode cX12_closed 16 = .ok (.bipush (-2), 2) := by decide +kernel
theorem dX12_closed_18 : decode cX12_closed 18 = .ok (.ireturn, 1) := by decide +kernel
theorem dX12_signs_0 : decode cX12_signs 0 = .ok (.aload_n 0, 1) := by decide +kernel
theorem dX12_signs_1 : decode cX12_signs 1 = .ok (.invokevirtual 74, 3) := by decide +kernel
theorem dX12_signs_4 : decode cX12_signs 4 = .ok (.ifCond .ne 6, 3) := by decide +kernel
theorem dX12_signs_7 : decode cX12_signs 7 = .ok (.bipush (-2), 2) := by decide +kernel
theorem dX12_signs_9 : decode cX12_signs 9 = .ok (.ireturn, 1) := by decide +kernel
theorem dX12_signs_10 : decode cX12_signs 10 = .ok (.iconst 0, 1) := by decide +kernel
theorem dX12_signs_11 : decode cX12_signs 11 = .ok (.istore_n 1, 1) := by decide +kernel
theorem dX12_signs_12 : decode cX12_signs 12 = .ok (.iload_n 1, 1) := by decide +kernel
theorem dX12_signs_13 : decode cX12_signs 13 = .ok (.bipush 60, 2) := by decide +kernel
theorem dX12_signs_15 : decode cX12_signs 15 = .ok (.if_icmp .ge 23, 3) := by decide +kernel
theorem dX12_signs_18 : decode cX12_signs 18 = .ok (.aload_n 0, 1) := by decide +kernel
theorem dX12_signs_19 : decode cX12_signs 19 = .ok (.iload_n 1, 1) := by decide +kernel
theorem dX12_signs_20 : decode cX12_signs 20 = .ok (.invokevirtual 404, 3) := by decide +kernel
theorem dX12_signs_23 : decode cX12_signs 23 = .ok (.aload_n 0, 1) := by decide +kernel
theorem dX12_signs_24 : decode cX12_signs 24 = .ok (.invokevirtual 393, 3) := by decide +kernel
theorem dX12_signs_27 : decode cX12_signs 27 = .ok (.if_icmp .ne 5, 3) := by decide +kernel
theorem dX12_signs_30 : decode cX12_signs 30 = .ok (.iload_n 1, 1) := by decide +kernel
theorem dX12_signs_31 : decode cX12_signs 31 = .ok (.ireturn, 1) := by decide +kernel
theorem dX12_signs_32 : decode cX12_signs 32 = .ok (.iinc 1 1, 3) := by decide +kernel
theorem dX12_signs_35 : decode cX12_signs 35 = .ok (.goto (-23), 3) := by decide +kernel
theorem dX12_signs_38 : decode cX12_signs 38 = .ok (.iconst (-1), 1) := by decide +kernel
theorem dX12_signs_39 : decode cX12_signs 39 = .ok (.ireturn, 1) := by decide +kernel
theorem dX12_isTreaty_0 : decode cX12_isTreaty 0 = .ok (.iload_n 1, 1) := by decide +kernel
theorem dX12_isTreaty_1 : decode cX12_isTreaty 1 = .ok (.iconst 1, 1) := by decide +kernel
theorem dX12_isTreaty_2 : decode cX12_isTreaty 2 = .ok (.iadd, 1) := by decide +kernel
theorem dX12_isTreaty_3 : decode cX12_isTreaty 3 = .ok (.istore_n 3, 1) := by decide +kernel
theorem dX12_isTreaty_4 : decode cX12_isTreaty 4 = .ok (.iload_n 3, 1) := by decide +kernel
theorem dX12_isTreaty_5 : decode cX12_isTreaty 5 = .ok (.aload_n 0, 1) := by decide +kernel
theorem dX12_isTreaty_6 : decode cX12_isTreaty 6 = .ok (.getfield 9, 3) := by decide +kernel
theorem dX12_isTreaty_9 : decode cX12_isTreaty 9 = .ok (.iconst 0, 1) := by decide +kernel
theorem dX12_isTreaty_10 : decode cX12_isTreaty 10 = .ok (.iaload, 1) := by decide +kernel
theorem dX12_isTreaty_11 : decode cX12_isTreaty 11 = .ok (.if_icmp .gt 31, 3) := by decide +kernel
theorem dX12_isTreaty_14 : decode cX12_isTreaty 14 = .ok (.aload_n 0, 1) := by decide +kernel
theorem dX12_isTreaty_15 : decode cX12_isTreaty 15 = .ok (.getfield 34, 3) := by decide +kernel
theorem dX12_isTreaty_18 : decode cX12_isTreaty 18 = .ok (.iload_n 3, 1) := by decide +kernel
theorem dX12_isTreaty_19 : decode cX12_isTreaty 19 = .ok (.iaload, 1) := by decide +kernel
theorem dX12_isTreaty_20 : decode cX12_isTreaty 20 = .ok (.aload_n 0, 1) := by decide +kernel
theorem dX12_isTreaty_21 : decode cX12_isTreaty 21 = .ok (.getfield 34, 3) := by decide +kernel
theorem dX12_isTreaty_24 : decode cX12_isTreaty 24 = .ok (.iload_n 1, 1) := by decide +kernel
theorem dX12_isTreaty_25 : decode cX12_isTreaty 25 = .ok (.iaload, 1) := by decide +kernel
theorem dX12_isTreaty_26 : decode cX12_isTreaty 26 = .ok (.isub, 1) := by decide +kernel
theorem dX12_isTreaty_27 : decode cX12_isTreaty 27 = .ok (.invokestatic 410, 3) := by decide +kernel
theorem dX12_isTreaty_30 : decode cX12_isTreaty 30 = .ok (.iload_n 2, 1) := by decide +kernel
theorem dX12_isTreaty_31 : decode cX12_isTreaty 31 = .ok (.if_icmp .le 5, 3) := by decide +kernel
theorem dX12_isTreaty_34 : decode cX12_isTreaty 34 = .ok (.iconst 0, 1) := by decide +kernel
theorem dX12_isTreaty_35 : decode cX12_isTreaty 35 = .ok (.ireturn, 1) := by decide +kernel
theorem dX12_isTreaty_36 : decode cX12_isTreaty 36 = .ok (.iinc 3 1, 3) := by decide +kernel
theorem dX12_isTreaty_39 : decode cX12_isTreaty 39 = .ok (.goto (-35), 3) := by decide +kernel
theorem dX12_isTreaty_42 : decode cX12_isTreaty 42 = .ok (.iconst 1, 1) := by decide +kernel
theorem dX12_isTreaty_43 : decode cX12_isTreaty 43 = .ok (.ireturn, 1) := by decide +kernel
theorem dX12_treaties_0 : decode cX12_treaties 0 = .ok (.aload_n 0, 1) := by decide +kernel
theorem dX12_treaties_1 : decode cX12_treaties 1 = .ok (.iload_n 1, 1) := by decide +kernel
theorem dX12_treaties_2 : decode cX12_treaties 2 = .ok (.invokevirtual 266, 3) := by decide +kernel
theorem dX12_treaties_5 : decode cX12_treaties 5 = .ok (.ifCond .ne 7, 3) := by decide +kernel
theorem dX12_treaties_8 : decode cX12_treaties 8 = .ok (.ldc2_w 275, 3) := by decide +kernel
theorem dX12_treaties_11 : decode cX12_treaties 11 = .ok (.lreturn, 1) := by decide +kernel
theorem dX12_treaties_12 : decode cX12_treaties 12 = .ok (.aload_n 0, 1) := by decide +kernel
theorem dX12_treaties_13 : decode cX12_treaties 13 = .ok (.iload_n 1, 1) := by decide +kernel
theorem dX12_treaties_14 : decode cX12_treaties 14 = .ok (.invokevirtual 258, 3) := by decide +kernel
theorem dX12_treaties_17 : decode cX12_treaties 17 = .ok (.pop, 1) := by decide +kernel
theorem dX12_treaties_18 : decode cX12_treaties 18 = .ok (.lconst 0, 1) := by decide +kernel
theorem dX12_treaties_19 : decode cX12_treaties 19 = .ok (.lstore_n 2, 1) := by decide +kernel
theorem dX12_treaties_20 : decode cX12_treaties 20 = .ok (.iconst 1, 1) := by decide +kernel
theorem dX12_treaties_21 : decode cX12_treaties 21 = .ok (.istore 4, 2) := by decide +kernel
theorem dX12_treaties_23 : decode cX12_treaties 23 = .ok (.iload 4, 2) := by decide +kernel
theorem dX12_treaties_25 : decode cX12_treaties 25 = .ok (.aload_n 0, 1) := by decide +kernel
theorem dX12_treaties_26 : decode cX12_treaties 26 = .ok (.getfield 9, 3) := by decide +kernel
theorem dX12_treaties_29 : decode cX12_treaties 29 = .ok (.iconst 0, 1) := by decide +kernel
theorem dX12_treaties_30 : decode cX12_treaties 30 = .ok (.iaload, 1) := by decide +kernel
theorem dX12_treaties_31 : decode cX12_treaties 31 = .ok (.if_icmp .gt 37, 3) := by decide +kernel
theorem dX12_treaties_34 : decode cX12_treaties 34 = .ok (.lload_n 2, 1) := by decide +kernel
theorem dX12_treaties_35 : decode cX12_treaties 35 = .ok (.aload_n 0, 1) := by decide +kernel
theorem dX12_treaties_36 : decode cX12_treaties 36 = .ok (.iload 4, 2) := by decide +kernel
theorem dX12_treaties_38 : decode cX12_treaties 38 = .ok (.aload_n 0, 1) := by decide +kernel
theorem dX12_treaties_39 : decode cX12_treaties 39 = .ok (.getfield 9, 3) := by decide +kernel
theorem dX12_treaties_42 : decode cX12_treaties 42 = .ok (.iconst 2, 1) := by decide +kernel
theorem dX12_treaties_43 : decode cX12_treaties 43 = .ok (.iaload, 1) := by decide +kernel
theorem dX12_treaties_44 : decode cX12_treaties 44 = .ok (.invokevirtual 413, 3) := by decide +kernel
theorem dX12_treaties_47 : decode cX12_treaties 47 = .ok (.ifCond .eq 12, 3) := by decide +kernel
theorem dX12_treaties_50 : decode cX12_treaties 50 = .ok (.lconst 1, 1) := by decide +kernel
theorem dX12_treaties_51 : decode cX12_treaties 51 = .ok (.iload 4, 2) := by decide +kernel
theorem dX12_treaties_53 : decode cX12_treaties 53 = .ok (.iconst 1, 1) := by decide +kernel
theorem dX12_treaties_54 : decode cX12_treaties 54 = .ok (.isub, 1) := by decide +kernel
theorem dX12_treaties_55 : decode cX12_treaties 55 = .ok (.lshl, 1) := by decide +kernel
theorem dX12_treaties_56 : decode cX12_treaties 56 = .ok (.goto 4, 3) := by decide +kernel
theorem dX12_treaties_59 : decode cX12_treaties 59 = .ok (.lconst 0, 1) := by decide +kernel
theorem dX12_treaties_60 : decode cX12_treaties 60 = .ok (.lor, 1) := by decide +kernel
theorem dX12_treaties_61 : decode cX12_treaties 61 = .ok (.lstore_n 2, 1) := by decide +kernel
theorem dX12_treaties_62 : decode cX12_treaties 62 = .ok (.iinc 4 1, 3) := by decide +kernel
theorem dX12_treaties_65 : decode cX12_treaties 65 = .ok (.goto (-42), 3) := by decide +kernel
theorem dX12_treaties_68 : decode cX12_treaties 68 = .ok (.lload_n 2, 1) := by decide +kernel
theorem dX12_treaties_69 : decode cX12_treaties 69 = .ok (.lreturn, 1) := by decide +kernel
theorem dX12_price_0 : decode cX12_price 0 = .ok (.aload_n 0, 1) := by decide +kernel
theorem dX12_price_1 : decode cX12_price 1 = .ok (.iload_n 2, 1) := by decide +kernel
theorem dX12_price_2 : decode cX12_price 2 = .ok (.invokevirtual 266, 3) := by decide +kernel
theorem dX12_price_5 : decode cX12_price 5 = .ok (.ifCond .eq 19, 3) := by decide +kernel
theorem dX12_price_8 : decode cX12_price 8 = .ok (.iload_n 1, 1) := by decide +kernel
theorem dX12_price_9 : decode cX12_price 9 = .ok (.i2l, 1) := by decide +kernel
theorem dX12_price_10 : decode cX12_price 10 = .ok (.lconst 1, 1) := by decide +kernel
theorem dX12_price_11 : decode cX12_price 11 = .ok (.aload_n 0, 1) := by decide +kernel
theorem dX12_price_12 : decode cX12_price 12 = .ok (.getfield 9, 3) := by decide +kernel
theorem dX12_price_15 : decode cX12_price 15 = .ok (.iconst 0, 1) := by decide +kernel
theorem dX12_price_16 : decode cX12_price 16 = .ok (.iaload, 1) := by decide +kernel
theorem dX12_price_17 : decode cX12_price 17 = .ok (.i2l, 1) := by decide +kernel
theorem dX12_price_18 : decode cX12_price 18 = .ok (.invokestatic 70, 3) := by decide +kernel
theorem dX12_price_21 : decode cX12_price 21 = .ok (.ifCond .ne 6, 3) := by decide +kernel
theorem dX12_price_24 : decode cX12_price 24 = .ok (.bipush (-2), 2) := by decide +kernel
theorem dX12_price_26 : decode cX12_price 26 = .ok (.ireturn, 1) := by decide +kernel
theorem dX12_price_27 : decode cX12_price 27 = .ok (.aload_n 0, 1) := by decide +kernel
theorem dX12_price_28 : decode cX12_price 28 = .ok (.iload_n 2, 1) := by decide +kernel
theorem dX12_price_29 : decode cX12_price 29 = .ok (.invokevirtual 258, 3) := by decide +kernel
theorem dX12_price_32 : decode cX12_price 32 = .ok (.pop, 1) := by decide +kernel
theorem dX12_price_33 : decode cX12_price 33 = .ok (.iconst 0, 1) := by decide +kernel
theorem dX12_price_34 : decode cX12_price 34 = .ok (.istore_n 3, 1) := by decide +kernel
theorem dX12_price_35 : decode cX12_price 35 = .ok (.iload_n 3, 1) := by decide +kernel
theorem dX12_price_36 : decode cX12_price 36 = .ok (.bipush 60, 2) := by decide +kernel
theorem dX12_price_38 : decode cX12_price 38 = .ok (.if_icmp .gt 20, 3) := by decide +kernel
theorem dX12_price_41 : decode cX12_price 41 = .ok (.aload_n 0, 1) := by decide +kernel
theorem dX12_price_42 : decode cX12_price 42 = .ok (.iload_n 1, 1) := by decide +kernel
theorem dX12_price_43 : decode cX12_price 43 = .ok (.iload_n 3, 1) := by decide +kernel
theorem dX12_price_44 : decode cX12_price 44 = .ok (.invokevirtual 413, 3) := by decide +kernel
theorem dX12_price_47 : decode cX12_price 47 = .ok (.ifCond .eq 5, 3) := by decide +kernel
theorem dX12_price_50 : decode cX12_price 50 = .ok (.iload_n 3, 1) := by decide +kernel
theorem dX12_price_51 : decode cX12_price 51 = .ok (.ireturn, 1) := by decide +kernel
theorem dX12_price_52 : decode cX12_price 52 = .ok (.iinc 3 1, 3) := by decide +kernel
theorem dX12_price_55 : decode cX12_price 55 = .ok (.goto (-20), 3) := by decide +kernel
theorem dX12_price_58 : decode cX12_price 58 = .ok (.iconst (-1), 1) := by decide +kernel
theorem dX12_price_59 : decode cX12_price 59 = .ok (.ireturn, 1) := by decide +kernel
theorem dX12_spiesBy_0 : decode cX12_spiesBy 0 = .ok (.iconst 0, 1) := by decide +kernel
theorem dX12_spiesBy_1 : decode cX12_spiesBy 1 = .ok (.istore_n 2, 1) := by decide +kernel
theorem dX12_spiesBy_2 : decode cX12_spiesBy 2 = .ok (.iconst 0, 1) := by decide +kernel
theorem dX12_spiesBy_3 : decode cX12_spiesBy 3 = .ok (.istore_n 3, 1) := by decide +kernel
theorem dX12_spiesBy_4 : decode cX12_spiesBy 4 = .ok (.iload_n 3, 1) := by decide +kernel
theorem dX12_spiesBy_5 : decode cX12_spiesBy 5 = .ok (.aload_n 0, 1) := by decide +kernel
theorem dX12_spiesBy_6 : decode cX12_spiesBy 6 = .ok (.getfield 9, 3) := by decide +kernel
theorem dX12_spiesBy_9 : decode cX12_spiesBy 9 = .ok (.bipush 8, 2) := by decide +kernel
theorem dX12_spiesBy_11 : decode cX12_spiesBy 11 = .ok (.iaload, 1) := by decide +kernel
theorem dX12_spiesBy_12 : decode cX12_spiesBy 12 = .ok (.if_icmp .ge 35, 3) := by decide +kernel
theorem dX12_spiesBy_15 : decode cX12_spiesBy 15 = .ok (.iload_n 2, 1) := by decide +kernel
theorem dX12_spiesBy_16 : decode cX12_spiesBy 16 = .ok (.iload_n 1, 1) := by decide +kernel
theorem dX12_spiesBy_17 : decode cX12_spiesBy 17 = .ok (.aload_n 0, 1) := by decide +kernel
theorem dX12_spiesBy_18 : decode cX12_spiesBy 18 = .ok (.getfield 9, 3) := by decide +kernel
theorem dX12_spiesBy_21 : decode cX12_spiesBy 21 = .ok (.bipush 115, 2) := by decide +kernel
theorem dX12_spiesBy_23 : decode cX12_spiesBy 23 = .ok (.iload_n 3, 1) := by decide +kernel
theorem dX12_spiesBy_24 : decode cX12_spiesBy 24 = .ok (.iadd, 1) := by decide +kernel
theorem dX12_spiesBy_25 : decode cX12_spiesBy 25 = .ok (.iaload, 1) := by decide +kernel
theorem dX12_spiesBy_26 : decode cX12_spiesBy 26 = .ok (.iconst (-1), 1) := by decide +kernel
theorem dX12_spiesBy_27 : decode cX12_spiesBy 27 = .ok (.ixor, 1) := by decide +kernel
theorem dX12_spiesBy_28 : decode cX12_spiesBy 28 = .ok (.iand, 1) := by decide +kernel
theorem dX12_spiesBy_29 : decode cX12_spiesBy 29 = .ok (.ifCond .ne 9, 3) := by decide +kernel
theorem dX12_spiesBy_32 : decode cX12_spiesBy 32 = .ok (.iconst 1, 1) := by decide +kernel
theorem dX12_spiesBy_33 : decode cX12_spiesBy 33 = .ok (.iload_n 3, 1) := by decide +kernel
theorem dX12_spiesBy_34 : decode cX12_spiesBy 34 = .ok (.ishl, 1) := by decide +kernel
theorem dX12_spiesBy_35 : decode cX12_spiesBy 35 = .ok (.goto 4, 3) := by decide +kernel
theorem dX12_spiesBy_38 : decode cX12_spiesBy 38 = .ok (.iconst 0, 1) := by decide +kernel
theorem dX12_spiesBy_39 : decode cX12_spiesBy 39 = .ok (.ior, 1) := by decide +kernel
theorem dX12_spiesBy_40 : decode cX12_spiesBy 40 = .ok (.istore_n 2, 1) := by decide +kernel
theorem dX12_spiesBy_41 : decode cX12_spiesBy 41 = .ok (.iinc 3 1, 3) := by decide +kernel
theorem dX12_spiesBy_44 : decode cX12_spiesBy 44 = .ok (.goto (-40), 3) := by decide +kernel
theorem dX12_spiesBy_47 : decode cX12_spiesBy 47 = .ok (.iload_n 2, 1) := by decide +kernel
theorem dX12_spiesBy_48 : decode cX12_spiesBy 48 = .ok (.ireturn, 1) := by decide +kernel
theorem dX12_knowing_0 : decode cX12_knowing 0 = .ok (.iconst 0, 1) := by decide +kernel
theorem dX12_knowing_1 : decode cX12_knowing 1 = .ok (.istore_n 3, 1) := by decide +kernel
theorem dX12_knowing_2 : decode cX12_knowing 2 = .ok (.iconst 0, 1) := by decide +kernel
theorem dX12_knowing_3 : decode cX12_knowing 3 = .ok (.istore 4, 2) := by decide +kernel
theorem dX12_knowing_5 : decode cX12_knowing 5 = .ok (.iload 4, 2) := by decide +kernel
theorem dX12_knowing_7 : decode cX12_knowing 7 = .ok (.aload_n 0, 1) := by decide +kernel
theorem dX12_knowing_8 : decode cX12_knowing 8 = .ok (.getfield 9, 3) := by decide +kernel
theorem dX12_knowing_11 : decode cX12_knowing 11 = .ok (.bipush 8, 2) := by decide +kernel
theorem dX12_knowing_13 : decode cX12_knowing 13 = .ok (.iaload, 1) := by decide +kernel
theorem dX12_knowing_14 : decode cX12_knowing 14 = .ok (.if_icmp .ge 33, 3) := by decide +kernel
theorem dX12_knowing_17 : decode cX12_knowing 17 = .ok (.iload_n 3, 1) := by decide +kernel
theorem dX12_knowing_18 : decode cX12_knowing 18 = .ok (.iload_n 1, 1) := by decide +kernel
theorem dX12_knowing_19 : decode cX12_knowing 19 = .ok (.iload 4, 2) := by decide +kernel
theorem dX12_knowing_21 : decode cX12_knowing 21 = .ok (.invokestatic 86, 3) := by decide +kernel
theorem dX12_knowing_24 : decode cX12_knowing 24 = .ok (.aload_n 0, 1) := by decide +kernel
theorem dX12_knowing_25 : decode cX12_knowing 25 = .ok (.getfield 9, 3) := by decide +kernel
theorem dX12_knowing_28 : decode cX12_knowing 28 = .ok (.bipush 115, 2) := by decide +kernel
theorem dX12_knowing_30 : decode cX12_knowing 30 = .ok (.iload 4, 2) := by decide +kernel
theorem dX12_knowing_32 : decode cX12_knowing 32 = .ok (.iadd, 1) := by decide +kernel
theorem dX12_knowing_33 : decode cX12_knowing 33 = .ok (.iaload, 1) := by decide +kernel
theorem dX12_knowing_34 : decode cX12_knowing 34 = .ok (.iload_n 2, 1) := by decide +kernel
theorem dX12_knowing_35 : decode cX12_knowing 35 = .ok (.invokestatic 86, 3) := by decide +kernel
theorem dX12_knowing_38 : decode cX12_knowing 38 = .ok (.imul, 1) := by decide +kernel
theorem dX12_knowing_39 : decode cX12_knowing 39 = .ok (.iadd, 1) := by decide +kernel
theorem dX12_knowing_40 : decode cX12_knowing 40 = .ok (.istore_n 3, 1) := by decide +kernel
theorem dX12_knowing_41 : decode cX12_knowing 41 = .ok (.iinc 4 1, 3) := by decide +kernel
theorem dX12_knowing_44 : decode cX12_knowing 44 = .ok (.goto (-39), 3) := by decide +kernel
theorem dX12_knowing_47 : decode cX12_knowing 47 = .ok (.iload_n 3, 1) := by decide +kernel
theorem dX12_knowing_48 : decode cX12_knowing 48 = .ok (.ireturn, 1) := by decide +kernel
theorem dX12_spies_0 : decode cX12_spies 0 = .ok (.aload_n 0, 1) := by decide +kernel
theorem dX12_spies_1 : decode cX12_spies 1 = .ok (.iload_n 1, 1) := by decide +kernel
theorem dX12_spies_2 : decode cX12_spies 2 = .ok (.invokevirtual 266, 3) := by decide +kernel
theorem dX12_spies_5 : decode cX12_spies 5 = .ok (.ifCond .eq 11, 3) := by decide +kernel
theorem dX12_spies_8 : decode cX12_spies 8 = .ok (.aload_n 0, 1) := by decide +kernel
theorem dX12_spies_9 : decode cX12_spies 9 = .ok (.iload_n 1, 1) := by decide +kernel
theorem dX12_spies_10 : decode cX12_spies 10 = .ok (.invokevirtual 416, 3) := by decide +kernel
theorem dX12_spies_13 : decode cX12_spies 13 = .ok (.goto 5, 3) := by decide +kernel
theorem dX12_spies_16 : decode cX12_spies 16 = .ok (.bipush (-2), 2) := by decide +kernel
theorem dX12_spies_18 : decode cX12_spies 18 = .ok (.ireturn, 1) := by decide +kernel
theorem dX12_watchOf_0 : decode cX12_watchOf 0 = .ok (.aload_n 0, 1) := by decide +kernel
theorem dX12_watchOf_1 : decode cX12_watchOf 1 = .ok (.iload_n 1, 1) := by decide +kernel
theorem dX12_watchOf_2 : decode cX12_watchOf 2 = .ok (.invokevirtual 416, 3) := by decide +kernel
theorem dX12_watchOf_5 : decode cX12_watchOf 5 = .ok (.istore_n 2, 1) := by decide +kernel
theorem dX12_watchOf_6 : decode cX12_watchOf 6 = .ok (.aload_n 0, 1) := by decide +kernel
theorem dX12_watchOf_7 : decode cX12_watchOf 7 = .ok (.iload_n 2, 1) := by decide +kernel
theorem dX12_watchOf_8 : decode cX12_watchOf 8 = .ok (.invokestatic 281, 3) := by decide +kernel
theorem dX12_watchOf_11 : decode cX12_watchOf 11 = .ok (.putfield 419, 3) := by decide +kernel
theorem dX12_watchOf_14 : decode cX12_watchOf 14 = .ok (.iconst (-1), 1) := by decide +kernel
theorem dX12_watchOf_15 : decode cX12_watchOf 15 = .ok (.istore_n 3, 1) := by decide +kernel
theorem dX12_watchOf_16 : decode cX12_watchOf 16 = .ok (.iconst 0, 1) := by decide +kernel
theorem dX12_watchOf_17 : decode cX12_watchOf 17 = .ok (.istore 4, 2) := by decide +kernel
theorem dX12_watchOf_19 : decode cX12_watchOf 19 = .ok (.iload 4, 2) := by decide +kernel
theorem dX12_watchOf_21 : decode cX12_watchOf 21 = .ok (.aload_n 0, 1) := by decide +kernel
theorem dX12_watchOf_22 : decode cX12_watchOf 22 = .ok (.getfield 9, 3) := by decide +kernel
theorem dX12_watchOf_25 : decode cX12_watchOf 25 = .ok (.iconst 4, 1) := by decide +kernel
theorem dX12_watchOf_26 : decode cX12_watchOf 26 = .ok (.iaload, 1) := by decide +kernel
theorem dX12_watchOf_27 : decode cX12_watchOf 27 = .ok (.if_icmp .ge 64, 3) := by decide +kernel
theorem dX12_watchOf_30 : decode cX12_watchOf 30 = .ok (.aload_n 0, 1) := by decide +kernel
theorem dX12_watchOf_31 : decode cX12_watchOf 31 = .ok (.iload_n 2, 1) := by decide +kernel
theorem dX12_watchOf_32 : decode cX12_watchOf 32 = .ok (.iload 4, 2) := by decide +kernel
theorem dX12_watchOf_34 : decode cX12_watchOf 34 = .ok (.invokevirtual 422, 3) := by decide +kernel
theorem dX12_watchOf_37 : decode cX12_watchOf 37 = .ok (.iload_n 2, 1) := by decide +kernel
theorem dX12_watchOf_38 : decode cX12_watchOf 38 = .ok (.invokestatic 281, 3) := by decide +kernel
theorem dX12_watchOf_41 : decode cX12_watchOf 41 = .ok (.aload_n 0, 1) := by decide +kernel
theorem dX12_watchOf_42 : decode cX12_watchOf 42 = .ok (.iload_n 2, 1) := by decide +kernel
theorem dX12_watchOf_43 : decode cX12_watchOf 43 = .ok (.iload 4, 2) := by decide +kernel
theorem dX12_watchOf_45 : decode cX12_watchOf 45 = .ok (.invokevirtual 422, 3) := by decide +kernel
theorem dX12_watchOf_48 : decode cX12_watchOf 48 = .ok (.isub, 1) := by decide +kernel
theorem dX12_watchOf_49 : decode cX12_watchOf 49 = .ok (.invokestatic 373, 3) := by decide +kernel
theorem dX12_watchOf_52 : decode cX12_watchOf 52 = .ok (.istore 5, 2) := by decide +kernel
theorem dX12_watchOf_54 : decode cX12_watchOf 54 = .ok (.iload_n 1, 1) := by decide +kernel
theorem dX12_watchOf_55 : decode cX12_watchOf 55 = .ok (.iload 4, 2) := by decide +kernel
theorem dX12_watchOf_57 : decode cX12_watchOf 57 = .ok (.invokestatic 86, 3) := by decide +kernel
theorem dX12_watchOf_60 : decode cX12_watchOf 60 = .ok (.iconst 1, 1) := by decide +kernel
theorem dX12_watchOf_61 : decode cX12_watchOf 61 = .ok (.if_icmp .eq 24, 3) := by decide +kernel
theorem dX12_watchOf_64 : decode cX12_watchOf 64 = .ok (.iload 5, 2) := by decide +kernel
theorem dX12_watchOf_66 : decode cX12_watchOf 66 = .ok (.aload_n 0, 1) := by decide +kernel
theorem dX12_watchOf_67 : decode cX12_watchOf 67 = .ok (.getfield 419, 3) := by decide +kernel
theorem dX12_watchOf_70 : decode cX12_watchOf 70 = .ok (.if_icmp .lt 6, 3) := by decide +kernel
theorem dX12_watchOf_73 : decode cX12_watchOf 73 = .ok (.goto 12, 3) := by decide +kernel
theorem dX12_watchOf_76 : decode cX12_watchOf 76 = .ok (.aload_n 0, 1) := by decide +kernel
theorem dX12_watchOf_77 : decode cX12_watchOf 77 = .ok (.iload 5, 2) := by decide +kernel
theorem dX12_watchOf_79 : decode cX12_watchOf 79 = .ok (.putfield 419, 3) := by decide +kernel
theorem dX12_watchOf_82 : decode cX12_watchOf 82 = .ok (.iload 4, 2) := by decide +kernel
theorem dX12_watchOf_84 : decode cX12_watchOf 84 = .ok (.istore_n 3, 1) := by decide +kernel
theorem dX12_watchOf_85 : decode cX12_watchOf 85 = .ok (.iinc 4 1, 3) := by decide +kernel
theorem dX12_watchOf_88 : decode cX12_watchOf 88 = .ok (.goto (-69), 3) := by decide +kernel
theorem dX12_watchOf_91 : decode cX12_watchOf 91 = .ok (.iload_n 3, 1) := by decide +kernel
theorem dX12_watchOf_92 : decode cX12_watchOf 92 = .ok (.ireturn, 1) := by decide +kernel
theorem dX12_watch_0 : decode cX12_watch 0 = .ok (.aload_n 0, 1) := by decide +kernel
theorem dX12_watch_1 : decode cX12_watch 1 = .ok (.iload_n 1, 1) := by decide +kernel
theorem dX12_watch_2 : decode cX12_watch 2 = .ok (.invokevirtual 266, 3) := by decide +kernel
theorem dX12_watch_5 : decode cX12_watch 5 = .ok (.ifCond .eq 11, 3) := by decide +kernel
theorem dX12_watch_8 : decode cX12_watch 8 = .ok (.aload_n 0, 1) := by decide +kernel
theorem dX12_watch_9 : decode cX12_watch 9 = .ok (.iload_n 1, 1) := by decide +kernel
theorem dX12_watch_10 : decode cX12_watch 10 = .ok (.invokevirtual 425, 3) := by decide +kernel
theorem dX12_watch_13 : decode cX12_watch 13 = .ok (.goto 5, 3) := by decide +kernel
theorem dX12_watch_16 : decode cX12_watch 16 = .ok (.bipush (-2), 2) := by decide +kernel
theorem dX12_watch_18 : decode cX12_watch 18 = .ok (.ireturn, 1) := by decide +kernel
theorem dX12_leaves_0 : decode cX12_leaves 0 = .ok (.aload_n 0, 1) := by decide +kernel
theorem dX12_leaves_1 : decode cX12_leaves 1 = .ok (.iload_n 1, 1) := by decide +kernel
theorem dX12_leaves_2 : decode cX12_leaves 2 = .ok (.invokevirtual 266, 3) := by decide +kernel
theorem dX12_leaves_5 : decode cX12_leaves 5 = .ok (.ifCond .ne 6, 3) := by decide +kernel
theorem dX12_leaves_8 : decode cX12_leaves 8 = .ok (.bipush (-2), 2) := by decide +kernel
theorem dX12_leaves_10 : decode cX12_leaves 10 = .ok (.ireturn, 1) := by decide +kernel
theorem dX12_leaves_11 : decode cX12_leaves 11 = .ok (.aload_n 0, 1) := by decide +kernel
theorem dX12_leaves_12 : decode cX12_leaves 12 = .ok (.iload_n 1, 1) := by decide +kernel
theorem dX12_leaves_13 : decode cX12_leaves 13 = .ok (.invokevirtual 425, 3) := by decide +kernel
theorem dX12_leaves_16 : decode cX12_leaves 16 = .ok (.pop, 1) := by decide +kernel
theorem dX12_leaves_17 : decode cX12_leaves 17 = .ok (.aload_n 0, 1) := by decide +kernel
theorem dX12_leaves_18 : decode cX12_leaves 18 = .ok (.getfield 419, 3) := by decide +kernel
theorem dX12_leaves_21 : decode cX12_leaves 21 = .ok (.ireturn, 1) := by decide +kernel
theorem dX12_known_0 : decode cX12_known 0 = .ok (.aload_n 0, 1) := by decide +kernel
theorem dX12_known_1 : decode cX12_known 1 = .ok (.iload_n 1, 1) := by decide +kernel
theorem dX12_known_2 : decode cX12_known 2 = .ok (.invokevirtual 266, 3) := by decide +kernel
theorem dX12_known_5 : decode cX12_known 5 = .ok (.ifCond .eq 13, 3) := by decide +kernel
theorem dX12_known_8 : decode cX12_known 8 = .ok (.iload_n 2, 1) := by decide +kernel
theorem dX12_known_9 : decode cX12_known 9 = .ok (.i2l, 1) := by decide +kernel
theorem dX12_known_10 : decode cX12_known 10 = .ok (.lconst 0, 1) := by decide +kernel
theorem dX12_known_11 : decode cX12_known 11 = .ok (.lconst 1, 1) := by decide +kernel
theorem dX12_known_12 : decode cX12_known 12 = .ok (.invokestatic 70, 3) := by decide +kernel
theorem dX12_known_15 : decode cX12_known 15 = .ok (.ifCond .ne 6, 3) := by decide +kernel
theorem dX12_known_18 : decode cX12_known 18 = .ok (.bipush (-2), 2) := by decide +kernel
theorem dX12_known_20 : decode cX12_known 20 = .ok (.ireturn, 1) := by decide +kernel
theorem dX12_known_21 : decode cX12_known 21 = .ok (.aload_n 0, 1) := by decide +kernel
theorem dX12_known_22 : decode cX12_known 22 = .ok (.iload_n 1, 1) := by decide +kernel
theorem dX12_known_23 : decode cX12_known 23 = .ok (.invokevirtual 416, 3) := by decide +kernel
theorem dX12_known_26 : decode cX12_known 26 = .ok (.istore_n 3, 1) := by decide +kernel
theorem dX12_known_27 : decode cX12_known 27 = .ok (.iconst 0, 1) := by decide +kernel
theorem dX12_known_28 : decode cX12_known 28 = .ok (.istore 4, 2) := by decide +kernel
theorem dX12_known_30 : decode cX12_known 30 = .ok (.iconst 0, 1) := by decide +kernel
theorem dX12_known_31 : decode cX12_known 31 = .ok (.istore 5, 2) := by decide +kernel
theorem dX12_known_33 : decode cX12_known 33 = .ok (.iload 5, 2) := by decide +kernel
theorem dX12_known_35 : decode cX12_known 35 = .ok (.aload_n 0, 1) := by decide +kernel
theorem dX12_known_36 : decode cX12_known 36 = .ok (.getfield 9, 3) := by decide +kernel
theorem dX12_known_39 : decode cX12_known 39 = .ok (.iconst 4, 1) := by decide +kernel
theorem dX12_known_40 : decode cX12_known 40 = .ok (.iaload, 1) := by decide +kernel
theorem dX12_known_41 : decode cX12_known 41 = .ok (.if_icmp .ge 48, 3) := by decide +kernel
theorem dX12_known_44 : decode cX12_known 44 = .ok (.iload_n 3, 1) := by decide +kernel
theorem dX12_known_45 : decode cX12_known 45 = .ok (.ifCond .eq 38, 3) := by decide +kernel
theorem dX12_known_48 : decode cX12_known 48 = .ok (.iload 4, 2) := by decide +kernel
theorem dX12_known_50 : decode cX12_known 50 = .ok (.aload_n 0, 1) := by decide +kernel
theorem dX12_known_51 : decode cX12_known 51 = .ok (.iload_n 3, 1) := by decide +kernel
theorem dX12_known_52 : decode cX12_known 52 = .ok (.iload 5, 2) := by decide +kernel
theorem dX12_known_54 : decode cX12_known 54 = .ok (.invokevirtual 422, 3) := by decide +kernel
theorem dX12_known_57 : decode cX12_known 57 = .ok (.iload_n 2, 1) := by decide +kernel
theorem dX12_known_58 : decode cX12_known 58 = .ok (.ifCond .ne 10, 3) := by decide +kernel
theorem dX12_known_61 : decode cX12_known 61 = .ok (.iload_n 3, 1) := by decide +kernel
theorem dX12_known_62 : decode cX12_known 62 = .ok (.invokestatic 281, 3) := by decide +kernel
theorem dX12_known_65 : decode cX12_known 65 = .ok (.goto 4, 3) := by decide +kernel
theorem dX12_known_68 : decode cX12_known 68 = .ok (.iconst 1, 1) := by decide +kernel
theorem dX12_known_69 : decode cX12_known 69 = .ok (.if_icmp .lt 10, 3) := by decide +kernel
theorem dX12_known_72 : decode cX12_known 72 = .ok (.iconst 1, 1) := by decide +kernel
theorem dX12_known_73 : decode cX12_known 73 = .ok (.iload 5, 2) := by decide +kernel
theorem dX12_known_75 : decode cX12_known 75 = .ok (.ishl, 1) := by decide +kernel
theorem dX12_known_76 : decode cX12_known 76 = .ok (.goto 4, 3) := by decide +kernel
theorem dX12_known_79 : decode cX12_known 79 = .ok (.iconst 0, 1) := by decide +kernel
theorem dX12_known_80 : decode cX12_known 80 = .ok (.ior, 1) := by decide +kernel
theorem dX12_known_81 : decode cX12_known 81 = .ok (.istore 4, 2) := by decide +kernel
theorem dX12_known_83 : decode cX12_known 83 = .ok (.iinc 5 1, 3) := by decide +kernel
theorem dX12_known_86 : decode cX12_known 86 = .ok (.goto (-53), 3) := by decide +kernel
theorem dX12_known_89 : decode cX12_known 89 = .ok (.iload 4, 2) := by decide +kernel
theorem dX12_known_91 : decode cX12_known 91 = .ok (.ireturn, 1) := by decide +kernel
theorem dX12_ofAsk_0 : decode cX12_ofAsk 0 = .ok (.aload_n 0, 1) := by decide +kernel
theorem dX12_ofAsk_1 : decode cX12_ofAsk 1 = .ok (.getfield 9, 3) := by decide +kernel
theorem dX12_ofAsk_4 : decode cX12_ofAsk 4 = .ok (.bipush 75, 2) := by decide +kernel
theorem dX12_ofAsk_6 : decode cX12_ofAsk 6 = .ok (.iconst 4, 1) := by decide +kernel
theorem dX12_ofAsk_7 : decode cX12_ofAsk 7 = .ok (.iload_n 1, 1) := by decide +kernel
theorem dX12_ofAsk_8 : decode cX12_ofAsk 8 = .ok (.imul, 1) := by decide +kernel
theorem dX12_ofAsk_9 : decode cX12_ofAsk 9 = .ok (.iadd, 1) := by decide +kernel
theorem dX12_ofAsk_10 : decode cX12_ofAsk 10 = .ok (.iload_n 2, 1) := by decide +kernel
theorem dX12_ofAsk_11 : decode cX12_ofAsk 11 = .ok (.iadd, 1) := by decide +kernel
theorem dX12_ofAsk_12 : decode cX12_ofAsk 12 = .ok (.iaload, 1) := by decide +kernel
theorem dX12_ofAsk_13 : decode cX12_ofAsk 13 = .ok (.ireturn, 1) := by decide +kernel
theorem dX12_endOf_0 : decode cX12_endOf 0 = .ok (.aload_n 0, 1) := by decide +kernel
theorem dX12_endOf_1 : decode cX12_endOf 1 = .ok (.iload_n 1, 1) := by decide +kernel
theorem dX12_endOf_2 : decode cX12_endOf 2 = .ok (.iconst 1, 1) := by decide +kernel
theorem dX12_endOf_3 : decode cX12_endOf 3 = .ok (.invokevirtual 428, 3) := by decide +kernel
theorem dX12_endOf_6 : decode cX12_endOf 6 = .ok (.aload_n 0, 1) := by decide +kernel
theorem dX12_endOf_7 : decode cX12_endOf 7 = .ok (.iload_n 1, 1) := by decide +kernel
theorem dX12_endOf_8 : decode cX12_endOf 8 = .ok (.iconst 2, 1) := by decide +kernel
theorem dX12_endOf_9 : decode cX12_endOf 9 = .ok (.invokevirtual 428, 3) := by decide +kernel
theorem dX12_endOf_12 : decode cX12_endOf 12 = .ok (.iadd, 1) := by decide +kernel
theorem dX12_endOf_13 : decode cX12_endOf 13 = .ok (.ireturn, 1) := by decide +kernel
theorem dX12_nextAsk_0 : decode cX12_nextAsk 0 = .ok (.iconst (-1), 1) := by decide +kernel
theorem dX12_nextAsk_1 : decode cX12_nextAsk 1 = .ok (.istore_n 3, 1) := by decide +kernel
theorem dX12_nextAsk_2 : decode cX12_nextAsk 2 = .ok (.iconst 0, 1) := by decide +kernel
theorem dX12_nextAsk_3 : decode cX12_nextAsk 3 = .ok (.istore 4, 2) := by decide +kernel
theorem dX12_nextAsk_5 : decode cX12_nextAsk 5 = .ok (.iload 4, 2) := by decide +kernel
theorem dX12_nextAsk_7 : decode cX12_nextAsk 7 = .ok (.aload_n 0, 1) := by decide +kernel
theorem dX12_nextAsk_8 : decode cX12_nextAsk 8 = .ok (.getfield 9, 3) := by decide +kernel
theorem dX12_nextAsk_11 : decode cX12_nextAsk 11 = .ok (.bipush 6, 2) := by decide +kernel
theorem dX12_nextAsk_13 : decode cX12_nextAsk 13 = .ok (.iaload, 1) := by decide +kernel
theorem dX12_nextAsk_14 : decode cX12_nextAsk 14 = .ok (.if_icmp .ge 54, 3) := by decide +kernel
theorem dX12_nextAsk_17 : decode cX12_nextAsk 17 = .ok (.iload_n 1, 1) := by decide +kernel
theorem dX12_nextAsk_18 : decode cX12_nextAsk 18 = .ok (.iload 4, 2) := by decide +kernel
theorem dX12_nextAsk_20 : decode cX12_nextAsk 20 = .ok (.invokestatic 86, 3) := by decide +kernel
theorem dX12_nextAsk_23 : decode cX12_nextAsk 23 = .ok (.iconst 1, 1) := by decide +kernel
theorem dX12_nextAsk_24 : decode cX12_nextAsk 24 = .ok (.if_icmp .ne 38, 3) := by decide +kernel
theorem dX12_nextAsk_27 : decode cX12_nextAsk 27 = .ok (.aload_n 0, 1) := by decide +kernel
theorem dX12_nextAsk_28 : decode cX12_nextAsk 28 = .ok (.iload 4, 2) := by decide +kernel
theorem dX12_nextAsk_30 : decode cX12_nextAsk 30 = .ok (.iconst 1, 1) := by decide +kernel
theorem dX12_nextAsk_31 : decode cX12_nextAsk 31 = .ok (.invokevirtual 428, 3) := by decide +kernel
theorem dX12_nextAsk_34 : decode cX12_nextAsk 34 = .ok (.iload_n 2, 1) := by decide +kernel
theorem dX12_nextAsk_35 : decode cX12_nextAsk 35 = .ok (.if_icmp .lt 27, 3) := by decide +kernel
theorem dX12_nextAsk_38 : decode cX12_nextAsk 38 = .ok (.iload_n 3, 1) := by decide +kernel
theorem dX12_nextAsk_39 : decode cX12_nextAsk 39 = .ok (.iconst (-1), 1) := by decide +kernel
theorem dX12_nextAsk_40 : decode cX12_nextAsk 40 = .ok (.if_icmp .eq 19, 3) := by decide +kernel
theorem dX12_nextAsk_43 : decode cX12_nextAsk 43 = .ok (.aload_n 0, 1) := by decide +kernel
theorem dX12_nextAsk_44 : decode cX12_nextAsk 44 = .ok (.iload 4, 2) := by decide +kernel
theorem dX12_nextAsk_46 : decode cX12_nextAsk 46 = .ok (.iconst 1, 1) := by decide +kernel
theorem dX12_nextAsk_47 : decode cX12_nextAsk 47 = .ok (.invokevirtual 428, 3) := by decide +kernel
theorem dX12_nextAsk_50 : decode cX12_nextAsk 50 = .ok (.aload_n 0, 1) := by decide +kernel
theorem dX12_nextAsk_51 : decode cX12_nextAsk 51 = .ok (.iload_n 3, 1) := by decide +kernel
theorem dX12_nextAsk_52 : decode cX12_nextAsk 52 = .ok (.iconst 1, 1) := by decide +kernel
theorem dX12_nextAsk_53 : decode cX12_nextAsk 53 = .ok (.invokevirtual 428, 3) := by decide +kernel
theorem dX12_nextAsk_56 : decode cX12_nextAsk 56 = .ok (.if_icmp .ge 6, 3) := by decide +kernel
theorem dX12_nextAsk_59 : decode cX12_nextAsk 59 = .ok (.iload 4, 2) := by decide +kernel
theorem dX12_nextAsk_61 : decode cX12_nextAsk 61 = .ok (.istore_n 3, 1) := by decide +kernel
theorem dX12_nextAsk_62 : decode cX12_nextAsk 62 = .ok (.iinc 4 1, 3) := by decide +kernel
theorem dX12_nextAsk_65 : decode cX12_nextAsk 65 = .ok (.goto (-60), 3) := by decide +kernel
theorem dX12_nextAsk_68 : decode cX12_nextAsk 68 = .ok (.iload_n 3, 1) := by decide +kernel
theorem dX12_nextAsk_69 : decode cX12_nextAsk 69 = .ok (.ireturn, 1) := by decide +kernel
theorem dX12_canGrant_0 : decode cX12_canGrant 0 = .ok (.iconst 0, 1) := by decide +kernel
theorem dX12_canGrant_1 : decode cX12_canGrant 1 = .ok (.istore_n 3, 1) := by decide +kernel
theorem dX12_canGrant_2 : decode cX12_canGrant 2 = .ok (.iconst (-1), 1) := by decide +kernel
theorem dX12_canGrant_3 : decode cX12_canGrant 3 = .ok (.istore 4, 2) := by decide +kernel
theorem dX12_canGrant_5 : decode cX12_canGrant 5 = .ok (.iconst 0, 1) := by decide +kernel
theorem dX12_canGrant_6 : decode cX12_canGrant 6 = .ok (.istore 5, 2) := by decide +kernel
theorem dX12_canGrant_8 : decode cX12_canGrant 8 = .ok (.aload_n 0, 1) := by decide +kernel
theorem dX12_canGrant_9 : decode cX12_canGrant 9 = .ok (.iload_n 1, 1) := by decide +kernel
theorem dX12_canGrant_10 : decode cX12_canGrant 10 = .ok (.iload 5, 2) := by decide +kernel
theorem dX12_canGrant_12 : decode cX12_canGrant 12 = .ok (.invokevirtual 431, 3) := by decide +kernel
theorem dX12_canGrant_15 : decode cX12_canGrant 15 = .ok (.istore 6, 2) := by decide +kernel
theorem dX12_canGrant_17 : decode cX12_canGrant 17 = .ok (.iload 6, 2) := by decide +kernel
theorem dX12_canGrant_19 : decode cX12_canGrant 19 = .ok (.iconst (-1), 1) := by decide +kernel
theorem dX12_canGrant_20 : decode cX12_canGrant 20 = .ok (.if_icmp .eq 53, 3) := by decide +kernel
theorem dX12_canGrant_23 : decode cX12_canGrant 23 = .ok (.iload_n 2, 1) := by decide +kernel
theorem dX12_canGrant_24 : decode cX12_canGrant 24 = .ok (.ifCond .eq 17, 3) := by decide +kernel
theorem dX12_canGrant_27 : decode cX12_canGrant 27 = .ok (.aload_n 0, 1) := by decide +kernel
theorem dX12_canGrant_28 : decode cX12_canGrant 28 = .ok (.iload 6, 2) := by decide +kernel
theorem dX12_canGrant_30 : decode cX12_canGrant 30 = .ok (.iconst 0, 1) := by decide +kernel
theorem dX12_canGrant_31 : decode cX12_canGrant 31 = .ok (.invokevirtual 428, 3) := by decide +kernel
theorem dX12_canGrant_34 : decode cX12_canGrant 34 = .ok (.iload 4, 2) := by decide +kernel
theorem dX12_canGrant_36 : decode cX12_canGrant 36 = .ok (.if_icmp .ne 5, 3) := by decide +kernel
theorem dX12_canGrant_39 : decode cX12_canGrant 39 = .ok (.iconst 0, 1) := by decide +kernel
theorem dX12_canGrant_40 : decode cX12_canGrant 40 = .ok (.ireturn, 1) := by decide +kernel
theorem dX12_canGrant_41 : decode cX12_canGrant 41 = .ok (.aload_n 0, 1) := by decide +kernel
theorem dX12_canGrant_42 : decode cX12_canGrant 42 = .ok (.iload 6, 2) := by decide +kernel
theorem dX12_canGrant_44 : decode cX12_canGrant 44 = .ok (.iconst 0, 1) := by decide +kernel
theorem dX12_canGrant_45 : decode cX12_canGrant 45 = .ok (.invokevirtual 428, 3) := by decide +kernel
theorem dX12_canGrant_48 : decode cX12_canGrant 48 = .ok (.istore 4, 2) := by decide +kernel
theorem dX12_canGrant_50 : decode cX12_canGrant 50 = .ok (.aload_n 0, 1) := by decide +kernel
theorem dX12_canGrant_51 : decode cX12_canGrant 51 = .ok (.iload 6, 2) := by decide +kernel
theorem dX12_canGrant_53 : decode cX12_canGrant 53 = .ok (.invokevirtual 434, 3) := by decide +kernel
theorem dX12_canGrant_56 : decode cX12_canGrant 56 = .ok (.istore 5, 2) := by decide +kernel
theorem dX12_canGrant_58 : decode cX12_canGrant 58 = .ok (.iinc 3 1, 3) := by decide +kernel
theorem dX12_canGrant_61 : decode cX12_canGrant 61 = .ok (.aload_n 0, 1) := by decide +kernel
theorem dX12_canGrant_62 : decode cX12_canGrant 62 = .ok (.iload_n 1, 1) := by decide +kernel
theorem dX12_canGrant_63 : decode cX12_canGrant 63 = .ok (.iload 5, 2) := by decide +kernel
theorem dX12_canGrant_65 : decode cX12_canGrant 65 = .ok (.invokevirtual 431, 3) := by decide +kernel
theorem dX12_canGrant_68 : decode cX12_canGrant 68 = .ok (.istore 6, 2) := by decide +kernel
theorem dX12_canGrant_70 : decode cX12_canGrant 70 = .ok (.goto (-53), 3) := by decide +kernel
theorem dX12_canGrant_73 : decode cX12_canGrant 73 = .ok (.iload_n 3, 1) := by decide +kernel
theorem dX12_canGrant_74 : decode cX12_canGrant 74 = .ok (.iload_n 1, 1) := by decide +kernel
theorem dX12_canGrant_75 : decode cX12_canGrant 75 = .ok (.invokestatic 281, 3) := by decide +kernel
theorem dX12_canGrant_78 : decode cX12_canGrant 78 = .ok (.if_icmp .ne 7, 3) := by decide +kernel
theorem dX12_canGrant_81 : decode cX12_canGrant 81 = .ok (.iconst 1, 1) := by decide +kernel
theorem dX12_canGrant_82 : decode cX12_canGrant 82 = .ok (.goto 4, 3) := by decide +kernel
theorem dX12_canGrant_85 : decode cX12_canGrant 85 = .ok (.iconst 0, 1) := by decide +kernel
theorem dX12_canGrant_86 : decode cX12_canGrant 86 = .ok (.ireturn, 1) := by decide +kernel
theorem dX12_grantOf_0 : decode cX12_grantOf 0 = .ok (.iconst (-1), 1) := by decide +kernel
theorem dX12_grantOf_1 : decode cX12_grantOf 1 = .ok (.istore_n 2, 1) := by decide +kernel
theorem dX12_grantOf_2 : decode cX12_grantOf 2 = .ok (.iconst 0, 1) := by decide +kernel
theorem dX12_grantOf_3 : decode cX12_grantOf 3 = .ok (.istore_n 3, 1) := by decide +kernel
theorem dX12_grantOf_4 : decode cX12_grantOf 4 = .ok (.iload_n 3, 1) := by decide +kernel
theorem dX12_grantOf_5 : decode cX12_grantOf 5 = .ok (.iconst 1, 1) := by decide +kernel
theorem dX12_grantOf_6 : decode cX12_grantOf 6 = .ok (.aload_n 0, 1) := by decide +kernel
theorem dX12_grantOf_7 : decode cX12_grantOf 7 = .ok (.getfield 9, 3) := by decide +kernel
theorem dX12_grantOf_10 : decode cX12_grantOf 10 = .ok (.bipush 6, 2) := by decide +kernel
theorem dX12_grantOf_12 : decode cX12_grantOf 12 = .ok (.iaload, 1) := by decide +kernel
theorem dX12_grantOf_13 : decode cX12_grantOf 13 = .ok (.ishl, 1) := by decide +kernel
theorem dX12_grantOf_14 : decode cX12_grantOf 14 = .ok (.if_icmp .ge 78, 3) := by decide +kernel
theorem dX12_grantOf_17 : decode cX12_grantOf 17 = .ok (.iconst 0, 1) := by decide +kernel
theorem dX12_grantOf_18 : decode cX12_grantOf 18 = .ok (.istore 4, 2) := by decide +kernel
theorem dX12_grantOf_20 : decode cX12_grantOf 20 = .ok (.iconst 0, 1) := by decide +kernel
theorem dX12_grantOf_21 : decode cX12_grantOf 21 = .ok (.istore 5, 2) := by decide +kernel
theorem dX12_grantOf_23 : decode cX12_grantOf 23 = .ok (.iload 5, 2) := by decide +kernel
theorem dX12_grantOf_25 : decode cX12_grantOf 25 = .ok (.aload_n 0, 1) := by decide +kernel
theorem dX12_grantOf_26 : decode cX12_grantOf 26 = .ok (.getfield 9, 3) := by decide +kernel
theorem dX12_grantOf_29 : decode cX12_grantOf 29 = .ok (.bipush 6, 2) := by decide +kernel
theorem dX12_grantOf_31 : decode cX12_grantOf 31 = .ok (.iaload, 1) := by decide +kernel
theorem dX12_grantOf_32 : decode cX12_grantOf 32 = .ok (.if_icmp .ge 28, 3) := by decide +kernel
theorem dX12_grantOf_35 : decode cX12_grantOf 35 = .ok (.iload 4, 2) := by decide +kernel
theorem dX12_grantOf_37 : decode cX12_grantOf 37 = .ok (.iload_n 3, 1) := by decide +kernel
theorem dX12_grantOf_38 : decode cX12_grantOf 38 = .ok (.iload 5, 2) := by decide +kernel
theorem dX12_grantOf_40 : decode cX12_grantOf 40 = .ok (.invokestatic 86, 3) := by decide +kernel
theorem dX12_grantOf_43 : decode cX12_grantOf 43 = .ok (.aload_n 0, 1) := by decide +kernel
theorem dX12_grantOf_44 : decode cX12_grantOf 44 = .ok (.iload 5, 2) := by decide +kernel
theorem dX12_grantOf_46 : decode cX12_grantOf 46 = .ok (.iconst 3, 1) := by decide +kernel
theorem dX12_grantOf_47 : decode cX12_grantOf 47 = .ok (.invokevirtual 428, 3) := by decide +kernel
theorem dX12_grantOf_50 : decode cX12_grantOf 50 = .ok (.imul, 1) := by decide +kernel
theorem dX12_grantOf_51 : decode cX12_grantOf 51 = .ok (.iadd, 1) := by decide +kernel
theorem dX12_grantOf_52 : decode cX12_grantOf 52 = .ok (.istore 4, 2) := by decide +kernel
theorem dX12_grantOf_54 : decode cX12_grantOf 54 = .ok (.iinc 5 1, 3) := by decide +kernel
theorem dX12_grantOf_57 : decode cX12_grantOf 57 = .ok (.goto (-34), 3) := by decide +kernel
theorem dX12_grantOf_60 : decode cX12_grantOf 60 = .ok (.iload 4, 2) := by decide +kernel
theorem dX12_grantOf_62 : decode cX12_grantOf 62 = .ok (.iload_n 2, 1) := by decide +kernel
theorem dX12_grantOf_63 : decode cX12_grantOf 63 = .ok (.if_icmp .le 23, 3) := by decide +kernel
theorem dX12_grantOf_66 : decode cX12_grantOf 66 = .ok (.aload_n 0, 1) := by decide +kernel
theorem dX12_grantOf_67 : decode cX12_grantOf 67 = .ok (.iload_n 3, 1) := by decide +kernel
theorem dX12_grantOf_68 : decode cX12_grantOf 68 = .ok (.iload_n 1, 1) := by decide +kernel
theorem dX12_grantOf_69 : decode cX12_grantOf 69 = .ok (.invokevirtual 437, 3) := by decide +kernel
theorem dX12_grantOf_72 : decode cX12_grantOf 72 = .ok (.ifCond .ne 6, 3) := by decide +kernel
theorem dX12_grantOf_75 : decode cX12_grantOf 75 = .ok (.goto 11, 3) := by decide +kernel
theorem dX12_grantOf_78 : decode cX12_grantOf 78 = .ok (.iload 4, 2) := by decide +kernel
theorem dX12_grantOf_80 : decode cX12_grantOf 80 = .ok (.istore_n 2, 1) := by decide +kernel
theorem dX12_grantOf_81 : decode cX12_grantOf 81 = .ok (.aload_n 0, 1) := by decide +kernel
theorem dX12_grantOf_82 : decode cX12_grantOf 82 = .ok (.iload_n 3, 1) := by decide +kernel
theorem dX12_grantOf_83 : decode cX12_grantOf 83 = .ok (.putfield 441, 3) := by decide +kernel
theorem dX12_grantOf_86 : decode cX12_grantOf 86 = .ok (.iinc 3 1, 3) := by decide +kernel
theorem dX12_grantOf_89 : decode cX12_grantOf 89 = .ok (.goto (-85), 3) := by decide +kernel
theorem dX12_grantOf_92 : decode cX12_grantOf 92 = .ok (.iload_n 2, 1) := by decide +kernel
theorem dX12_grantOf_93 : decode cX12_grantOf 93 = .ok (.ireturn, 1) := by decide +kernel
theorem dX12_grant_0 : decode cX12_grant 0 = .ok (.aload_n 0, 1) := by decide +kernel
theorem dX12_grant_1 : decode cX12_grant 1 = .ok (.invokevirtual 74, 3) := by decide +kernel
theorem dX12_grant_4 : decode cX12_grant 4 = .ok (.ifCond .eq 11, 3) := by decide +kernel
theorem dX12_grant_7 : decode cX12_grant 7 = .ok (.aload_n 0, 1) := by decide +kernel
theorem dX12_grant_8 : decode cX12_grant 8 = .ok (.iconst 0, 1) := by decide +kernel
theorem dX12_grant_9 : decode cX12_grant 9 = .ok (.invokevirtual 444, 3) := by decide +kernel
theorem dX12_grant_12 : decode cX12_grant 12 = .ok (.goto 5, 3) := by decide +kernel
theorem dX12_grant_15 : decode cX12_grant 15 = .ok (.bipush (-2), 2) := by decide +kernel
theorem dX12_grant_17 : decode cX12_grant 17 = .ok (.ireturn, 1) := by decide +kernel
theorem dX12_granted_0 : decode cX12_granted 0 = .ok (.aload_n 0, 1) := by decide +kernel
theorem dX12_granted_1 : decode cX12_granted 1 = .ok (.invokevirtual 74, 3) := by decide +kernel
theorem dX12_granted_4 : decode cX12_granted 4 = .ok (.ifCond .ne 6, 3) := by decide +kernel
theorem dX12_granted_7 : decode cX12_granted 7 = .ok (.bipush (-2), 2) := by decide +kernel
theorem dX12_granted_9 : decode cX12_granted 9 = .ok (.ireturn, 1) := by decide +kernel
theorem dX12_granted_10 : decode cX12_granted 10 = .ok (.aload_n 0, 1) := by decide +kernel
theorem dX12_granted_11 : decode cX12_granted 11 = .ok (.iconst 0, 1) := by decide +kernel
theorem dX12_granted_12 : decode cX12_granted 12 = .ok (.invokevirtual 444, 3) := by decide +kernel
theorem dX12_granted_15 : decode cX12_granted 15 = .ok (.pop, 1) := by decide +kernel
theorem dX12_granted_16 : decode cX12_granted 16 = .ok (.aload_n 0, 1) := by decide +kernel
theorem dX12_granted_17 : decode cX12_granted 17 = .ok (.getfield 441, 3) := by decide +kernel
theorem dX12_granted_20 : decode cX12_granted 20 = .ok (.ireturn, 1) := by decide +kernel
theorem dX12_halves_0 : decode cX12_halves 0 = .ok (.aload_n 0, 1) := by decide +kernel
theorem dX12_halves_1 : decode cX12_halves 1 = .ok (.invokevirtual 74, 3) := by decide +kernel
theorem dX12_halves_4 : decode cX12_halves 4 = .ok (.ifCond .eq 11, 3) := by decide +kernel
theorem dX12_halves_7 : decode cX12_halves 7 = .ok (.aload_n 0, 1) := by decide +kernel
theorem dX12_halves_8 : decode cX12_halves 8 = .ok (.iconst 1, 1) := by decide +kernel
theorem dX12_halves_9 : decode cX12_halves 9 = .ok (.invokevirtual 444, 3) := by decide +kernel
theorem dX12_halves_12 : decode cX12_halves 12 = .ok (.goto 5, 3) := by decide +kernel
theorem dX12_halves_15 : decode cX12_halves 15 = .ok (.bipush (-2), 2) := by decide +kernel
theorem dX12_halves_17 : decode cX12_halves 17 = .ok (.ireturn, 1) := by decide +kernel
theorem dX12_halved_0 : decode cX12_halved 0 = .ok (.aload_n 0, 1) := by decide +kernel
theorem dX12_halved_1 : decode cX12_halved 1 = .ok (.invokevirtual 74, 3) := by decide +kernel
theorem dX12_halved_4 : decode cX12_halved 4 = .ok (.ifCond .ne 6, 3) := by decide +kernel
theorem dX12_halved_7 : decode cX12_halved 7 = .ok (.bipush (-2), 2) := by decide +kernel
theorem dX12_halved_9 : decode cX12_halved 9 = .ok (.ireturn, 1) := by decide +kernel
theorem dX12_halved_10 : decode cX12_halved 10 = .ok (.aload_n 0, 1) := by decide +kernel
theorem dX12_halved_11 : decode cX12_halved 11 = .ok (.iconst 1, 1) := by decide +kernel
theorem dX12_halved_12 : decode cX12_halved 12 = .ok (.invokevirtual 444, 3) := by decide +kernel
theorem dX12_halved_15 : decode cX12_halved 15 = .ok (.pop, 1) := by decide +kernel
theorem dX12_halved_16 : decode cX12_halved 16 = .ok (.aload_n 0, 1) := by decide +kernel
theorem dX12_halved_17 : decode cX12_halved 17 = .ok (.getfield 441, 3) := by decide +kernel
theorem dX12_halved_20 : decode cX12_halved 20 = .ok (.ireturn, 1) := by decide +kernel
theorem dX12_dry_0 : decode cX12_dry 0 = .ok (.aload_n 0, 1) := by decide +kernel
theorem dX12_dry_1 : decode cX12_dry 1 = .ok (.invokevirtual 74, 3) := by decide +kernel
theorem dX12_dry_4 : decode cX12_dry 4 = .ok (.ifCond .eq 36, 3) := by decide +kernel
theorem dX12_dry_7 : decode cX12_dry 7 = .ok (.iload_n 1, 1) := by decide +kernel
theorem dX12_dry_8 : decode cX12_dry 8 = .ok (.i2l, 1) := by decide +kernel
theorem dX12_dry_9 : decode cX12_dry 9 = .ok (.lconst 1, 1) := by decide +kernel
theorem dX12_dry_10 : decode cX12_dry 10 = .ok (.ldc2_w 385, 3) := by decide +kernel
theorem dX12_dry_13 : decode cX12_dry 13 = .ok (.invokestatic 70, 3) := by decide +kernel
theorem dX12_dry_16 : decode cX12_dry 16 = .ok (.ifCond .eq 24, 3) := by decide +kernel
theorem dX12_dry_19 : decode cX12_dry 19 = .ok (.iload_n 2, 1) := by decide +kernel
theorem dX12_dry_20 : decode cX12_dry 20 = .ok (.i2l, 1) := by decide +kernel
theorem dX12_dry_21 : decode cX12_dry 21 = .ok (.lconst 0, 1) := by decide +kernel
theorem dX12_dry_22 : decode cX12_dry 22 = .ok (.iload_n 1, 1) := by decide +kernel
theorem dX12_dry_23 : decode cX12_dry 23 = .ok (.i2l, 1) := by decide +kernel
theorem dX12_dry_24 : decode cX12_dry 24 = .ok (.invokestatic 70, 3) := by decide +kernel
theorem dX12_dry_27 : decode cX12_dry 27 = .ok (.ifCond .eq 13, 3) := by decide +kernel
theorem dX12_dry_30 : decode cX12_dry 30 = .ok (.iload_n 3, 1) := by decide +kernel
theorem dX12_dry_31 : decode cX12_dry 31 = .ok (.i2l, 1) := by decide +kernel
theorem dX12_dry_32 : decode cX12_dry 32 = .ok (.lconst 0, 1) := by decide +kernel
theorem dX12_dry_33 : decode cX12_dry 33 = .ok (.lconst 1, 1) := by decide +kernel
theorem dX12_dry_34 : decode cX12_dry 34 = .ok (.invokestatic 70, 3) := by decide +kernel
theorem dX12_dry_37 : decode cX12_dry 37 = .ok (.ifCond .ne 7, 3) := by decide +kernel
theorem dX12_dry_40 : decode cX12_dry 40 = .ok (.ldc2_w 275, 3) := by decide +kernel
theorem dX12_dry_43 : decode cX12_dry 43 = .ok (.lreturn, 1) := by decide +kernel
theorem dX12_dry_44 : decode cX12_dry 44 = .ok (.lconst 1, 1) := by decide +kernel
theorem dX12_dry_45 : decode cX12_dry 45 = .ok (.lstore 4, 2) := by decide +kernel
theorem dX12_dry_47 : decode cX12_dry 47 = .ok (.lconst 1, 1) := by decide +kernel
theorem dX12_dry_48 : decode cX12_dry 48 = .ok (.lstore 6, 2) := by decide +kernel
theorem dX12_dry_50 : decode cX12_dry 50 = .ok (.iconst 0, 1) := by decide +kernel
theorem dX12_dry_51 : decode cX12_dry 51 = .ok (.istore 8, 2) := by decide +kernel
theorem dX12_dry_53 : decode cX12_dry 53 = .ok (.iload 8, 2) := by decide +kernel
theorem dX12_dry_55 : decode cX12_dry 55 = .ok (.iload_n 2, 1) := by decide +kernel
theorem dX12_dry_56 : decode cX12_dry 56 = .ok (.if_icmp .ge 25, 3) := by decide +kernel
theorem dX12_dry_59 : decode cX12_dry 59 = .ok (.lload 4, 2) := by decide +kernel
theorem dX12_dry_61 : decode cX12_dry 61 = .ok (.iload_n 1, 1) := by decide +kernel
theorem dX12_dry_62 : decode cX12_dry 62 = .ok (.iload 8, 2) := by decide +kernel
theorem dX12_dry_64 : decode cX12_dry 64 = .ok (.isub, 1) := by decide +kernel
theorem dX12_dry_65 : decode cX12_dry 65 = .ok (.i2l, 1) := by decide +kernel
theorem dX12_dry_66 : decode cX12_dry 66 = .ok (.lmul, 1) := by decide +kernel
theorem dX12_dry_67 : decode cX12_dry 67 = .ok (.iload 8, 2) := by decide +kernel
theorem dX12_dry_69 : decode cX12_dry 69 = .ok (.iconst 1, 1) := by decide +kernel
theorem dX12_dry_70 : decode cX12_dry 70 = .ok (.iadd, 1) := by decide +kernel
theorem dX12_dry_71 : decode cX12_dry 71 = .ok (.i2l, 1) := by decide +kernel
theorem dX12_dry_72 : decode cX12_dry 72 = .ok (.ldiv, 1) := by decide +kernel
theorem dX12_dry_73 : decode cX12_dry 73 = .ok (.lstore 4, 2) := by decide +kernel
theorem dX12_dry_75 : decode cX12_dry 75 = .ok (.iinc 8 1, 3) := by decide +kernel
theorem dX12_dry_78 : decode cX12_dry 78 = .ok (.goto (-25), 3) := by decide +kernel
theorem dX12_dry_81 : decode cX12_dry 81 = .ok (.iconst 0, 1) := by decide +kernel
theorem dX12_dry_82 : decode cX12_dry 82 = .ok (.istore 8, 2) := by decide +kernel
theorem dX12_dry_84 : decode cX12_dry 84 = .ok (.iload 8, 2) := by decide +kernel
theorem dX12_dry_86 : decode cX12_dry 86 = .ok (.iload_n 1, 1) := by decide +kernel
theorem dX12_dry_87 : decode cX12_dry 87 = .ok (.if_icmp .ge 48, 3) := by decide +kernel
theorem dX12_dry_90 : decode cX12_dry 90 = .ok (.lload 4, 2) := by decide +kernel
theorem dX12_dry_92 : decode cX12_dry 92 = .ok (.iload 8, 2) := by decide +kernel
theorem dX12_dry_94 : decode cX12_dry 94 = .ok (.iload_n 2, 1) := by decide +kernel
theorem dX12_dry_95 : decode cX12_dry 95 = .ok (.if_icmp .ge 16, 3) := by decide +kernel
theorem dX12_dry_98 : decode cX12_dry 98 = .ok (.bipush 100, 2) := by decide +kernel
theorem dX12_dry_100 : decode cX12_dry 100 = .ok (.aload_n 0, 1) := by decide +kernel
theorem dX12_dry_101 : decode cX12_dry 101 = .ok (.getfield 9, 3) := by decide +kernel
theorem dX12_dry_104 : decode cX12_dry 104 = .ok (.iconst 3, 1) := by decide +kernel
theorem dX12_dry_105 : decode cX12_dry 105 = .ok (.iaload, 1) := by decide +kernel
theorem dX12_dry_106 : decode cX12_dry 106 = .ok (.isub, 1) := by decide +kernel
theorem dX12_dry_107 : decode cX12_dry 107 = .ok (.i2l, 1) := by decide +kernel
theorem dX12_dry_108 : decode cX12_dry 108 = .ok (.goto 10, 3) := by decide +kernel
theorem dX12_dry_111 : decode cX12_dry 111 = .ok (.aload_n 0, 1) := by decide +kernel
theorem dX12_dry_112 : decode cX12_dry 112 = .ok (.getfield 9, 3) := by decide +kernel
theorem dX12_dry_115 : decode cX12_dry 115 = .ok (.iconst 3, 1) := by decide +kernel
theorem dX12_dry_116 : decode cX12_dry 116 = .ok (.iaload, 1) := by decide +kernel
theorem dX12_dry_117 : decode cX12_dry 117 = .ok (.i2l, 1) := by decide +kernel
theorem dX12_dry_118 : decode cX12_dry 118 = .ok (.lmul, 1) := by decide +kernel
theorem dX12_dry_119 : decode cX12_dry 119 = .ok (.lstore 4, 2) := by decide +kernel
theorem dX12_dry_121 : decode cX12_dry 121 = .ok (.lload 6, 2) := by decide +kernel
theorem dX12_dry_123 : decode cX12_dry 123 = .ok (.ldc2_w 291, 3) := by decide +kernel
theorem dX12_dry_126 : decode cX12_dry 126 = .ok (.lmul, 1) := by decide +kernel
theorem dX12_dry_127 : decode cX12_dry 127 = .ok (.lstore 6, 2) := by decide +kernel
theorem dX12_dry_129 : decode cX12_dry 129 = .ok (.iinc 8 1, 3) := by decide +kernel
theorem dX12_dry_132 : decode cX12_dry 132 = .ok (.goto (-48), 3) := by decide +kernel
theorem dX12_dry_135 : decode cX12_dry 135 = .ok (.lload 4, 2) := by decide +kernel
theorem dX12_dry_137 : decode cX12_dry 137 = .ok (.lload 6, 2) := by decide +kernel
theorem dX12_dry_139 : decode cX12_dry 139 = .ok (.iload_n 3, 1) := by decide +kernel
theorem dX12_dry_140 : decode cX12_dry 140 = .ok (.invokestatic 301, 3) := by decide +kernel
theorem dX12_dry_143 : decode cX12_dry 143 = .ok (.lreturn, 1) := by decide +kernel
theorem dX12_insist_0 : decode cX12_insist 0 = .ok (.aload_n 0, 1) := by decide +kernel
theorem dX12_insist_1 : decode cX12_insist 1 = .ok (.invokevirtual 74, 3) := by decide +kernel
theorem dX12_insist_4 : decode cX12_insist 4 = .ok (.ifCond .eq 15, 3) := by decide +kernel
theorem dX12_insist_7 : decode cX12_insist 7 = .ok (.iload_n 1, 1) := by decide +kernel
theorem dX12_insist_8 : decode cX12_insist 8 = .ok (.i2l, 1) := by decide +kernel
theorem dX12_insist_9 : decode cX12_insist 9 = .ok (.lconst 0, 1) := by decide +kernel
theorem dX12_insist_10 : decode cX12_insist 10 = .ok (.ldc2_w 291, 3) := by decide +kernel
theorem dX12_insist_13 : decode cX12_insist 13 = .ok (.invokestatic 70, 3) := by decide +kernel
theorem dX12_insist_16 : decode cX12_insist 16 = .ok (.ifCond .ne 6, 3) := by decide +kernel
theorem dX12_insist_19 : decode cX12_insist 19 = .ok (.bipush (-2), 2) := by decide +kernel
theorem dX12_insist_21 : decode cX12_insist 21 = .ok (.ireturn, 1) := by decide +kernel
theorem dX12_insist_22 : decode cX12_insist 22 = .ok (.ldc_w 280, 3) := by decide +kernel
theorem dX12_insist_25 : decode cX12_insist 25 = .ok (.istore_n 2, 1) := by decide +kernel
theorem dX12_insist_26 : decode cX12_insist 26 = .ok (.iconst 1, 1) := by decide +kernel
theorem dX12_insist_27 : decode cX12_insist 27 = .ok (.istore_n 3, 1) := by decide +kernel
theorem dX12_insist_28 : decode cX12_insist 28 = .ok (.iload_n 3, 1) := by decide +kernel
theorem dX12_insist_29 : decode cX12_insist 29 = .ok (.bipush 60, 2) := by decide +kernel
theorem dX12_insist_31 : decode cX12_insist 31 = .ok (.if_icmp .gt 35, 3) := by decide +kernel
theorem dX12_insist_34 : decode cX12_insist 34 = .ok (.iload_n 2, 1) := by decide +kernel
theorem dX12_insist_35 : decode cX12_insist 35 = .ok (.aload_n 0, 1) := by decide +kernel
theorem dX12_insist_36 : decode cX12_insist 36 = .ok (.getfield 9, 3) := by decide +kernel
theorem dX12_insist_39 : decode cX12_insist 39 = .ok (.iconst 3, 1) := by decide +kernel
theorem dX12_insist_40 : decode cX12_insist 40 = .ok (.iaload, 1) := by decide +kernel
theorem dX12_insist_41 : decode cX12_insist 41 = .ok (.imul, 1) := by decide +kernel
theorem dX12_insist_42 : decode cX12_insist 42 = .ok (.bipush 100, 2) := by decide +kernel
theorem dX12_insist_44 : decode cX12_insist 44 = .ok (.idiv, 1) := by decide +kernel
theorem dX12_insist_45 : decode cX12_insist 45 = .ok (.istore_n 2, 1) := by decide +kernel
theorem dX12_insist_46 : decode cX12_insist 46 = .ok (.iload_n 2, 1) := by decide +kernel
theorem dX12_insist_47 : decode cX12_insist 47 = .ok (.sipush 10000, 3) := by decide +kernel
theorem dX12_insist_50 : decode cX12_insist 50 = .ok (.bipush 100, 2) := by decide +kernel
theorem dX12_insist_52 : decode cX12_insist 52 = .ok (.iload_n 1, 1) := by decide +kernel
theorem dX12_insist_53 : decode cX12_insist 53 = .ok (.isub, 1) := by decide +kernel
theorem dX12_insist_54 : decode cX12_insist 54 = .ok (.imul, 1) := by decide +kernel
theorem dX12_insist_55 : decode cX12_insist 55 = .ok (.if_icmp .gt 5, 3) := by decide +kernel
theorem dX12_insist_58 : decode cX12_insist 58 = .ok (.iload_n 3, 1) := by decide +kernel
theorem dX12_insist_59 : decode cX12_insist 59 = .ok (.ireturn, 1) := by decide +kernel
theorem dX12_insist_60 : decode cX12_insist 60 = .ok (.iinc 3 1, 3) := by decide +kernel
theorem dX12_insist_63 : decode cX12_insist 63 = .ok (.goto (-35), 3) := by decide +kernel
theorem dX12_insist_66 : decode cX12_insist 66 = .ok (.iconst (-1), 1) := by decide +kernel
theorem dX12_insist_67 : decode cX12_insist 67 = .ok (.ireturn, 1) := by decide +kernel
theorem dX12_change_0 : decode cX12_change 0 = .ok (.bipush 120, 2) := by decide +kernel
theorem dX12_change_2 : decode cX12_change 2 = .ok (.iconst 2, 1) := by decide +kernel
theorem dX12_change_3 : decode cX12_change 3 = .ok (.aload_n 0, 1) := by decide +kernel
theorem dX12_change_4 : decode cX12_change 4 = .ok (.getfield 9, 3) := by decide +kernel
theorem dX12_change_7 : decode cX12_change 7 = .ok (.bipush 10, 2) := by decide +kernel
theorem dX12_change_9 : decode cX12_change 9 = .ok (.iaload, 1) := by decide +kernel
theorem dX12_change_10 : decode cX12_change 10 = .ok (.imul, 1) := by decide +kernel
theorem dX12_change_11 : decode cX12_change 11 = .ok (.iadd, 1) := by decide +kernel
theorem dX12_change_12 : decode cX12_change 12 = .ok (.istore_n 3, 1) := by decide +kernel
theorem dX12_change_13 : decode cX12_change 13 = .ok (.aload_n 0, 1) := by decide +kernel
theorem dX12_change_14 : decode cX12_change 14 = .ok (.getfield 9, 3) := by decide +kernel
theorem dX12_change_17 : decode cX12_change 17 = .ok (.iload_n 3, 1) := by decide +kernel
theorem dX12_change_18 : decode cX12_change 18 = .ok (.iload_n 1, 1) := by decide +kernel
theorem dX12_change_19 : decode cX12_change 19 = .ok (.iastore, 1) := by decide +kernel
theorem dX12_change_20 : decode cX12_change 20 = .ok (.aload_n 0, 1) := by decide +kernel
theorem dX12_change_21 : decode cX12_change 21 = .ok (.getfield 9, 3) := by decide +kernel
theorem dX12_change_24 : decode cX12_change 24 = .ok (.iload_n 3, 1) := by decide +kernel
theorem dX12_change_25 : decode cX12_change 25 = .ok (.iconst 1, 1) := by decide +kernel
theorem dX12_change_26 : decode cX12_change 26 = .ok (.iadd, 1) := by decide +kernel
theorem dX12_change_27 : decode cX12_change 27 = .ok (.aload_n 0, 1) := by decide +kernel
theorem dX12_change_28 : decode cX12_change 28 = .ok (.getfield 9, 3) := by decide +kernel
theorem dX12_change_31 : decode cX12_change 31 = .ok (.iload_n 1, 1) := by decide +kernel
theorem dX12_change_32 : decode cX12_change 32 = .ok (.iaload, 1) := by decide +kernel
theorem dX12_change_33 : decode cX12_change 33 = .ok (.iastore, 1) := by decide +kernel
theorem dX12_change_34 : decode cX12_change 34 = .ok (.aload_n 0, 1) := by decide +kernel
theorem dX12_change_35 : decode cX12_change 35 = .ok (.getfield 9, 3) := by decide +kernel
theorem dX12_change_38 : decode cX12_change 38 = .ok (.iload_n 1, 1) := by decide +kernel
theorem dX12_change_39 : decode cX12_change 39 = .ok (.iload_n 2, 1) := by decide +kernel
theorem dX12_change_40 : decode cX12_change 40 = .ok (.iastore, 1) := by decide +kernel
theorem dX12_change_41 : decode cX12_change 41 = .ok (.aload_n 0, 1) := by decide +kernel
theorem dX12_change_42 : decode cX12_change 42 = .ok (.getfield 9, 3) := by decide +kernel
theorem dX12_change_45 : decode cX12_change 45 = .ok (.bipush 10, 2) := by decide +kernel
theorem dX12_change_47 : decode cX12_change 47 = .ok (.dup2, 1) := by decide +kernel
theorem dX12_change_48 : decode cX12_change 48 = .ok (.iaload, 1) := by decide +kernel
theorem dX12_change_49 : decode cX12_change 49 = .ok (.iconst 1, 1) := by decide +kernel
theorem dX12_change_50 : decode cX12_change 50 = .ok (.iadd, 1) := by decide +kernel
theorem dX12_change_51 : decode cX12_change 51 = .ok (.iastore, 1) := by decide +kernel
theorem dX12_change_52 : decode cX12_change 52 = .ok (.return_, 1) := by decide +kernel
theorem dX12_changed_0 : decode cX12_changed 0 = .ok (.aload_n 0, 1) := by decide +kernel
theorem dX12_changed_1 : decode cX12_changed 1 = .ok (.getfield 9, 3) := by decide +kernel
theorem dX12_changed_4 : decode cX12_changed 4 = .ok (.bipush 10, 2) := by decide +kernel
theorem dX12_changed_6 : decode cX12_changed 6 = .ok (.iaload, 1) := by decide +kernel
theorem dX12_changed_7 : decode cX12_changed 7 = .ok (.bipush 60, 2) := by decide +kernel
theorem dX12_changed_9 : decode cX12_changed 9 = .ok (.if_icmp .ne 6, 3) := by decide +kernel
theorem dX12_changed_12 : decode cX12_changed 12 = .ok (.bipush (-5), 2) := by decide +kernel
theorem dX12_changed_14 : decode cX12_changed 14 = .ok (.ireturn, 1) := by decide +kernel
theorem dX12_changed_15 : decode cX12_changed 15 = .ok (.aload_n 0, 1) := by decide +kernel
theorem dX12_changed_16 : decode cX12_changed 16 = .ok (.getfield 9, 3) := by decide +kernel
theorem dX12_changed_19 : decode cX12_changed 19 = .ok (.iload_n 1, 1) := by decide +kernel
theorem dX12_changed_20 : decode cX12_changed 20 = .ok (.iaload, 1) := by decide +kernel
theorem dX12_changed_21 : decode cX12_changed 21 = .ok (.istore_n 3, 1) := by decide +kernel
theorem dX12_changed_22 : decode cX12_changed 22 = .ok (.aload_n 0, 1) := by decide +kernel
theorem dX12_changed_23 : decode cX12_changed 23 = .ok (.iload_n 1, 1) := by decide +kernel
theorem dX12_changed_24 : decode cX12_changed 24 = .ok (.iload_n 2, 1) := by decide +kernel
theorem dX12_changed_25 : decode cX12_changed 25 = .ok (.invokevirtual 448, 3) := by decide +kernel
theorem dX12_changed_28 : decode cX12_changed 28 = .ok (.iload_n 3, 1) := by decide +kernel
theorem dX12_changed_29 : decode cX12_changed 29 = .ok (.ireturn, 1) := by decide +kernel
theorem dX12_tell_0 : decode cX12_tell 0 = .ok (.aload_n 0, 1) := by decide +kernel
theorem dX12_tell_1 : decode cX12_tell 1 = .ok (.iload_n 1, 1) := by decide +kernel
theorem dX12_tell_2 : decode cX12_tell 2 = .ok (.invokevirtual 230, 3) := by decide +kernel
theorem dX12_tell_5 : decode cX12_tell 5 = .ok (.ifCond .eq 48, 3) := by decide +kernel
theorem dX12_tell_8 : decode cX12_tell 8 = .ok (.iload_n 2, 1) := by decide +kernel
theorem dX12_tell_9 : decode cX12_tell 9 = .ok (.i2l, 1) := by decide +kernel
theorem dX12_tell_10 : decode cX12_tell 10 = .ok (.lconst 0, 1) := by decide +kernel
theorem dX12_tell_11 : decode cX12_tell 11 = .ok (.ldc2_w 68, 3) := by decide +kernel
theorem dX12_tell_14 : decode cX12_tell 14 = .ok (.invokestatic 70, 3) := by decide +kernel
theorem dX12_tell_17 : decode cX12_tell 17 = .ok (.ifCond .eq 36, 3) := by decide +kernel
theorem dX12_tell_20 : decode cX12_tell 20 = .ok (.iload_n 3, 1) := by decide +kernel
theorem dX12_tell_21 : decode cX12_tell 21 = .ok (.i2l, 1) := by decide +kernel
theorem dX12_tell_22 : decode cX12_tell 22 = .ok (.lconst 0, 1) := by decide +kernel
theorem dX12_tell_23 : decode cX12_tell 23 = .ok (.iload_n 2, 1) := by decide +kernel
theorem dX12_tell_24 : decode cX12_tell 24 = .ok (.ifCond .ne 9, 3) := by decide +kernel
theorem dX12_tell_27 : decode cX12_tell 27 = .ok (.ldc2_w 399, 3) := by decide +kernel
theorem dX12_tell_30 : decode cX12_tell 30 = .ok (.goto 17, 3) := by decide +kernel
theorem dX12_tell_33 : decode cX12_tell 33 = .ok (.iload_n 2, 1) := by decide +kernel
theorem dX12_tell_34 : decode cX12_tell 34 = .ok (.iconst 1, 1) := by decide +kernel
theorem dX12_tell_35 : decode cX12_tell 35 = .ok (.if_icmp .ne 9, 3) := by decide +kernel
theorem dX12_tell_38 : decode cX12_tell 38 = .ok (.ldc2_w 291, 3) := by decide +kernel
theorem dX12_tell_41 : decode cX12_tell 41 = .ok (.goto 6, 3) := by decide +kernel
theorem dX12_tell_44 : decode cX12_tell 44 = .ok (.ldc2_w 354, 3) := by decide +kernel
theorem dX12_tell_47 : decode cX12_tell 47 = .ok (.invokestatic 70, 3) := by decide +kernel
theorem dX12_tell_50 : decode cX12_tell 50 = .ok (.ifCond .ne 6, 3) := by decide +kernel
theorem dX12_tell_53 : decode cX12_tell 53 = .ok (.bipush (-2), 2) := by decide +kernel
theorem dX12_tell_55 : decode cX12_tell 55 = .ok (.ireturn, 1) := by decide +kernel
theorem dX12_tell_56 : decode cX12_tell 56 = .ok (.aload_n 0, 1) := by decide +kernel
theorem dX12_tell_57 : decode cX12_tell 57 = .ok (.bipush 13, 2) := by decide +kernel
theorem dX12_tell_59 : decode cX12_tell 59 = .ok (.bipush 6, 2) := by decide +kernel
theorem dX12_tell_61 : decode cX12_tell 61 = .ok (.iload_n 1, 1) := by decide +kernel
theorem dX12_tell_62 : decode cX12_tell 62 = .ok (.imul, 1) := by decide +kernel
theorem dX12_tell_63 : decode cX12_tell 63 = .ok (.iadd, 1) := by decide +kernel
theorem dX12_tell_64 : decode cX12_tell 64 = .ok (.iload_n 2, 1) := by decide +kernel
theorem dX12_tell_65 : decode cX12_tell 65 = .ok (.ifCond .ne 7, 3) := by decide +kernel
theorem dX12_tell_68 : decode cX12_tell 68 = .ok (.iconst 2, 1) := by decide +kernel
theorem dX12_tell_69 : decode cX12_tell 69 = .ok (.goto 13, 3) := by decide +kernel
theorem dX12_tell_72 : decode cX12_tell 72 = .ok (.iload_n 2, 1) := by decide +kernel
theorem dX12_tell_73 : decode cX12_tell 73 = .ok (.iconst 1, 1) := by decide +kernel
theorem dX12_tell_74 : decode cX12_tell 74 = .ok (.if_icmp .ne 7, 3) := by decide +kernel
theorem dX12_tell_77 : decode cX12_tell 77 = .ok (.iconst 3, 1) := by decide +kernel
theorem dX12_tell_78 : decode cX12_tell 78 = .ok (.goto 4, 3) := by decide +kernel
theorem dX12_tell_81 : decode cX12_tell 81 = .ok (.iconst 5, 1) := by decide +kernel
theorem dX12_tell_82 : decode cX12_tell 82 = .ok (.iadd, 1) := by decide +kernel
theorem dX12_tell_83 : decode cX12_tell 83 = .ok (.iload_n 3, 1) := by decide +kernel
theorem dX12_tell_84 : decode cX12_tell 84 = .ok (.invokevirtual 451, 3) := by decide +kernel
theorem dX12_tell_87 : decode cX12_tell 87 = .ok (.ireturn, 1) := by decide +kernel
theorem dX12_needs__0 : decode cX12_needs_ 0 = .ok (.aload_n 0, 1) := by decide +kernel
theorem dX12_needs__1 : decode cX12_needs_ 1 = .ok (.iload_n 1, 1) := by decide +kernel
theorem dX12_needs__2 : decode cX12_needs_ 2 = .ok (.invokevirtual 236, 3) := by decide +kernel
theorem dX12_needs__5 : decode cX12_needs_ 5 = .ok (.ifCond .eq 27, 3) := by decide +kernel
theorem dX12_needs__8 : decode cX12_needs_ 8 = .ok (.iload_n 2, 1) := by decide +kernel
theorem dX12_needs__9 : decode cX12_needs_ 9 = .ok (.i2l, 1) := by decide +kernel
theorem dX12_needs__10 : decode cX12_needs_ 10 = .ok (.lconst 0, 1) := by decide +kernel
theorem dX12_needs__11 : decode cX12_needs_ 11 = .ok (.ldc2_w 354, 3) := by decide +kernel
theorem dX12_needs__14 : decode cX12_needs_ 14 = .ok (.invokestatic 70, 3) := by decide +kernel
theorem dX12_needs__17 : decode cX12_needs_ 17 = .ok (.ifCond .eq 15, 3) := by decide +kernel
theorem dX12_needs__20 : decode cX12_needs_ 20 = .ok (.aload_n 0, 1) := by decide +kernel
theorem dX12_needs__21 : decode cX12_needs_ 21 = .ok (.bipush 11, 2) := by decide +kernel
theorem dX12_needs__23 : decode cX12_needs_ 23 = .ok (.iload_n 1, 1) := by decide +kernel
theorem dX12_needs__24 : decode cX12_needs_ 24 = .ok (.iadd, 1) := by decide +kernel
theorem dX12_needs__25 : decode cX12_needs_ 25 = .ok (.iload_n 2, 1) := by decide +kernel
theorem dX12_needs__26 : decode cX12_needs_ 26 = .ok (.invokevirtual 451, 3) := by decide +kernel
theorem dX12_needs__29 : decode cX12_needs_ 29 = .ok (.goto 5, 3) := by decide +kernel
theorem dX12_needs__32 : decode cX12_needs_ 32 = .ok (.bipush (-2), 2) := by decide +kernel
theorem dX12_needs__34 : decode cX12_needs_ 34 = .ok (.ireturn, 1) := by decide +kernel
theorem dX12_undo_0 : decode cX12_undo 0 = .ok (.aload_n 0, 1) := by decide +kernel
theorem dX12_undo_1 : decode cX12_undo 1 = .ok (.invokevirtual 74, 3) := by decide +kernel
theorem dX12_undo_4 : decode cX12_undo 4 = .ok (.ifCond .ne 6, 3) := by decide +kernel
theorem dX12_undo_7 : decode cX12_undo 7 = .ok (.bipush (-2), 2) := by decide +kernel
theorem dX12_undo_9 : decode cX12_undo 9 = .ok (.ireturn, 1) := by decide +kernel
theorem dX12_undo_10 : decode cX12_undo 10 = .ok (.aload_n 0, 1) := by decide +kernel
theorem dX12_undo_11 : decode cX12_undo 11 = .ok (.getfield 9, 3) := by decide +kernel
theorem dX12_undo_14 : decode cX12_undo 14 = .ok (.bipush 10, 2) := by decide +kernel
theorem dX12_undo_16 : decode cX12_undo 16 = .ok (.iaload, 1) := by decide +kernel
theorem dX12_undo_17 : decode cX12_undo 17 = .ok (.ifCond .ne 6, 3) := by decide +kernel
theorem dX12_undo_20 : decode cX12_undo 20 = .ok (.bipush (-5), 2) := by decide +kernel
theorem dX12_undo_22 : decode cX12_undo 22 = .ok (.ireturn, 1) := by decide +kernel
theorem dX12_undo_23 : decode cX12_undo 23 = .ok (.aload_n 0, 1) := by decide +kernel
theorem dX12_undo_24 : decode cX12_undo 24 = .ok (.getfield 9, 3) := by decide +kernel
theorem dX12_undo_27 : decode cX12_undo 27 = .ok (.bipush 10, 2) := by decide +kernel
theorem dX12_undo_29 : decode cX12_undo 29 = .ok (.dup2, 1) := by decide +kernel
theorem dX12_undo_30 : decode cX12_undo 30 = .ok (.iaload, 1) := by decide +kernel
theorem dX12_undo_31 : decode cX12_undo 31 = .ok (.iconst 1, 1) := by decide +kernel
theorem dX12_undo_32 : decode cX12_undo 32 = .ok (.isub, 1) := by decide +kernel
theorem dX12_undo_33 : decode cX12_undo 33 = .ok (.iastore, 1) := by decide +kernel
theorem dX12_undo_34 : decode cX12_undo 34 = .ok (.bipush 120, 2) := by decide +kernel
theorem dX12_undo_36 : decode cX12_undo 36 = .ok (.iconst 2, 1) := by decide +kernel
theorem dX12_undo_37 : decode cX12_undo 37 = .ok (.aload_n 0, 1) := by decide +kernel
theorem dX12_undo_38 : decode cX12_undo 38 = .ok (.getfield 9, 3) := by decide +kernel
theorem dX12_undo_41 : decode cX12_undo 41 = .ok (.bipush 10, 2) := by decide +kernel
theorem dX12_undo_43 : decode cX12_undo 43 = .ok (.iaload, 1) := by decide +kernel
theorem dX12_undo_44 : decode cX12_undo 44 = .ok (.imul, 1) := by decide +kernel
theorem dX12_undo_45 : decode cX12_undo 45 = .ok (.iadd, 1) := by decide +kernel
theorem dX12_undo_46 : decode cX12_undo 46 = .ok (.istore_n 1, 1) := by decide +kernel
theorem dX12_undo_47 : decode cX12_undo 47 = .ok (.aload_n 0, 1) := by decide +kernel
theorem dX12_undo_48 : decode cX12_undo 48 = .ok (.getfield 9, 3) := by decide +kernel
theorem dX12_undo_51 : decode cX12_undo 51 = .ok (.aload_n 0, 1) := by decide +kernel
theorem dX12_undo_52 : decode cX12_undo 52 = .ok (.getfield 9, 3) := by decide +kernel
theorem dX12_undo_55 : decode cX12_undo 55 = .ok (.iload_n 1, 1) := by decide +kernel
theorem dX12_undo_56 : decode cX12_undo 56 = .ok (.iaload, 1) := by decide +kernel
theorem dX12_undo_57 : decode cX12_undo 57 = .ok (.aload_n 0, 1) := by decide +kernel
theorem dX12_undo_58 : decode cX12_undo 58 = .ok (.getfield 9, 3) := by decide +kernel
theorem dX12_undo_61 : decode cX12_undo 61 = .ok (.iload_n 1, 1) := by decide +kernel
theorem dX12_undo_62 : decode cX12_undo 62 = .ok (.iconst 1, 1) := by decide +kernel
theorem dX12_undo_63 : decode cX12_undo 63 = .ok (.iadd, 1) := by decide +kernel
theorem dX12_undo_64 : decode cX12_undo 64 = .ok (.iaload, 1) := by decide +kernel
theorem dX12_undo_65 : decode cX12_undo 65 = .ok (.iastore, 1) := by decide +kernel
theorem dX12_undo_66 : decode cX12_undo 66 = .ok (.aload_n 0, 1) := by decide +kernel
theorem dX12_undo_67 : decode cX12_undo 67 = .ok (.getfield 9, 3) := by decide +kernel
theorem dX12_undo_70 : decode cX12_undo 70 = .ok (.bipush 10, 2) := by decide +kernel
theorem dX12_undo_72 : decode cX12_undo 72 = .ok (.iaload, 1) := by decide +kernel
theorem dX12_undo_73 : decode cX12_undo 73 = .ok (.ireturn, 1) := by decide +kernel
theorem dX12_drawnDelays_0 : decode cX12_drawnDelays 0 = .ok (.ldc2_w 454, 3) := by decide +kernel
theorem dX12_drawnDelays_3 : decode cX12_drawnDelays 3 = .ok (.lload_n 1, 1) := by decide +kernel
theorem dX12_drawnDelays_4 : decode cX12_drawnDelays 4 = .ok (.lmul, 1) := by decide +kernel
theorem dX12_drawnDelays_5 : decode cX12_drawnDelays 5 = .ok (.ldc2_w 456, 3) := by decide +kernel
theorem dX12_drawnDelays_8 : decode cX12_drawnDelays 8 = .ok (.ladd, 1) := by decide +kernel
theorem dX12_drawnDelays_9 : decode cX12_drawnDelays 9 = .ok (.ldc2_w 458, 3) := by decide +kernel
theorem dX12_drawnDelays_12 : decode cX12_drawnDelays 12 = .ok (.lrem, 1) := by decide +kernel
theorem dX12_drawnDelays_13 : decode cX12_drawnDelays 13 = .ok (.lstore_n 3, 1) := by decide +kernel
theorem dX12_drawnDelays_14 : decode cX12_drawnDelays 14 = .ok (.lload_n 3, 1) := by decide +kernel
theorem dX12_drawnDelays_15 : decode cX12_drawnDelays 15 = .ok (.ldc2_w 460, 3) := by decide +kernel
theorem dX12_drawnDelays_18 : decode cX12_drawnDelays 18 = .ok (.ldiv, 1) := by decide +kernel
theorem dX12_drawnDelays_19 : decode cX12_drawnDelays 19 = .ok (.ldc2_w 291, 3) := by decide +kernel
theorem dX12_drawnDelays_22 : decode cX12_drawnDelays 22 = .ok (.lrem, 1) := by decide +kernel
theorem dX12_drawnDelays_23 : decode cX12_drawnDelays 23 = .ok (.aload_n 0, 1) := by decide +kernel
theorem dX12_drawnDelays_24 : decode cX12_drawnDelays 24 = .ok (.getfield 9, 3) := by decide +kernel
theorem dX12_drawnDelays_27 : decode cX12_drawnDelays 27 = .ok (.iconst 3, 1) := by decide +kernel
theorem dX12_drawnDelays_28 : decode cX12_drawnDelays 28 = .ok (.iaload, 1) := by decide +kernel
theorem dX12_drawnDelays_29 : decode cX12_drawnDelays 29 = .ok (.i2l, 1) := by decide +kernel
theorem dX12_drawnDelays_30 : decode cX12_drawnDelays 30 = .ok (.lcmp, 1) := by decide +kernel
theorem dX12_drawnDelays_31 : decode cX12_drawnDelays 31 = .ok (.ifCond .ge 5, 3) := by decide +kernel
theorem dX12_drawnDelays_34 : decode cX12_drawnDelays 34 = .ok (.iconst (-1), 1) := by decide +kernel
theorem dX12_drawnDelays_35 : decode cX12_drawnDelays 35 = .ok (.ireturn, 1) := by decide +kernel
theorem dX12_drawnDelays_36 : decode cX12_drawnDelays 36 = .ok (.iconst 0, 1) := by decide +kernel
theorem dX12_drawnDelays_37 : decode cX12_drawnDelays 37 = .ok (.istore 5, 2) := by decide +kernel
theorem dX12_drawnDelays_39 : decode cX12_drawnDelays 39 = .ok (.iconst 0, 1) := by decide +kernel
theorem dX12_drawnDelays_40 : decode cX12_drawnDelays 40 = .ok (.istore 6, 2) := by decide +kernel
theorem dX12_drawnDelays_42 : decode cX12_drawnDelays 42 = .ok (.iload 6, 2) := by decide +kernel
theorem dX12_drawnDelays_44 : decode cX12_drawnDelays 44 = .ok (.aload_n 0, 1) := by decide +kernel
theorem dX12_drawnDelays_45 : decode cX12_drawnDelays 45 = .ok (.getfield 9, 3) := by decide +kernel
theorem dX12_drawnDelays_48 : decode cX12_drawnDelays 48 = .ok (.iconst 4, 1) := by decide +kernel
theorem dX12_drawnDelays_49 : decode cX12_drawnDelays 49 = .ok (.iaload, 1) := by decide +kernel
theorem dX12_drawnDelays_50 : decode cX12_drawnDelays 50 = .ok (.if_icmp .ge 57, 3) := by decide +kernel
theorem dX12_drawnDelays_53 : decode cX12_drawnDelays 53 = .ok (.ldc2_w 454, 3) := by decide +kernel
theorem dX12_drawnDelays_56 : decode cX12_drawnDelays 56 = .ok (.lload_n 3, 1) := by decide +kernel
theorem dX12_drawnDelays_57 : decode cX12_drawnDelays 57 = .ok (.lmul, 1) := by decide +kernel
theorem dX12_drawnDelays_58 : decode cX12_drawnDelays 58 = .ok (.ldc2_w 456, 3) := by decide +kernel
theorem dX12_drawnDelays_61 : decode cX12_drawnDelays 61 = .ok (.ladd, 1) := by decide +kernel
theorem dX12_drawnDelays_62 : decode cX12_drawnDelays 62 = .ok (.ldc2_w 458, 3) := by decide +kernel
theorem dX12_drawnDelays_65 : decode cX12_drawnDelays 65 = .ok (.lrem, 1) := by decide +kernel
theorem dX12_drawnDelays_66 : decode cX12_drawnDelays 66 = .ok (.lstore_n 3, 1) := by decide +kernel
theorem dX12_drawnDelays_67 : decode cX12_drawnDelays 67 = .ok (.iload 5, 2) := by decide +kernel
theorem dX12_drawnDelays_69 : decode cX12_drawnDelays 69 = .ok (.lload_n 3, 1) := by decide +kernel
theorem dX12_drawnDelays_70 : decode cX12_drawnDelays 70 = .ok (.ldc2_w 460, 3) := by decide +kernel
theorem dX12_drawnDelays_73 : decode cX12_drawnDelays 73 = .ok (.ldiv, 1) := by decide +kernel
theorem dX12_drawnDelays_74 : decode cX12_drawnDelays 74 = .ok (.ldc2_w 291, 3) := by decide +kernel
theorem dX12_drawnDelays_77 : decode cX12_drawnDelays 77 = .ok (.lrem, 1) := by decide +kernel
theorem dX12_drawnDelays_78 : decode cX12_drawnDelays 78 = .ok (.aload_n 0, 1) := by decide +kernel
theorem dX12_drawnDelays_79 : decode cX12_drawnDelays 79 = .ok (.iload 6, 2) := by decide +kernel
theorem dX12_drawnDelays_81 : decode cX12_drawnDelays 81 = .ok (.iconst 3, 1) := by decide +kernel
theorem dX12_drawnDelays_82 : decode cX12_drawnDelays 82 = .ok (.invokevirtual 82, 3) := by decide +kernel
theorem dX12_drawnDelays_85 : decode cX12_drawnDelays 85 = .ok (.i2l, 1) := by decide +kernel
theorem dX12_drawnDelays_86 : decode cX12_drawnDelays 86 = .ok (.lcmp, 1) := by decide +kernel
theorem dX12_drawnDelays_87 : decode cX12_drawnDelays 87 = .ok (.ifCond .ge 10, 3) := by decide +kernel
theorem dX12_drawnDelays_90 : decode cX12_drawnDelays 90 = .ok (.iconst 1, 1) := by decide +kernel
theorem dX12_drawnDelays_91 : decode cX12_drawnDelays 91 = .ok (.iload 6, 2) := by decide +kernel
theorem dX12_drawnDelays_93 : decode cX12_drawnDelays 93 = .ok (.ishl, 1) := by decide +kernel
theorem dX12_drawnDelays_94 : decode cX12_drawnDelays 94 = .ok (.goto 4, 3) := by decide +kernel
theorem dX12_drawnDelays_97 : decode cX12_drawnDelays 97 = .ok (.iconst 0, 1) := by decide +kernel
theorem dX12_drawnDelays_98 : decode cX12_drawnDelays 98 = .ok (.ior, 1) := by decide +kernel
theorem dX12_drawnDelays_99 : decode cX12_drawnDelays 99 = .ok (.istore 5, 2) := by decide +kernel
theorem dX12_drawnDelays_101 : decode cX12_drawnDelays 101 = .ok (.iinc 6 1, 3) := by decide +kernel
theorem dX12_drawnDelays_104 : decode cX12_drawnDelays 104 = .ok (.goto (-62), 3) := by decide +kernel
theorem dX12_drawnDelays_107 : decode cX12_drawnDelays 107 = .ok (.iload 5, 2) := by decide +kernel
theorem dX12_drawnDelays_109 : decode cX12_drawnDelays 109 = .ok (.ireturn, 1) := by decide +kernel
theorem dX12_isSeed_0 : decode cX12_isSeed 0 = .ok (.aload_n 0, 1) := by decide +kernel
theorem dX12_isSeed_1 : decode cX12_isSeed 1 = .ok (.invokevirtual 74, 3) := by decide +kernel
theorem dX12_isSeed_4 : decode cX12_isSeed 4 = .ok (.ifCond .eq 19, 3) := by decide +kernel
theorem dX12_isSeed_7 : decode cX12_isSeed 7 = .ok (.iload_n 1, 1) := by decide +kernel
theorem dX12_isSeed_8 : decode cX12_isSeed 8 = .ok (.i2l, 1) := by decide +kernel
theorem dX12_isSeed_9 : decode cX12_isSeed 9 = .ok (.lconst 0, 1) := by decide +kernel
theorem dX12_isSeed_10 : decode cX12_isSeed 10 = .ok (.ldc2_w 462, 3) := by decide +kernel
theorem dX12_isSeed_13 : decode cX12_isSeed 13 = .ok (.invokestatic 70, 3) := by decide +kernel
theorem dX12_isSeed_16 : decode cX12_isSeed 16 = .ok (.ifCond .eq 7, 3) := by decide +kernel
theorem dX12_isSeed_19 : decode cX12_isSeed 19 = .ok (.iconst 1, 1) := by decide +kernel
theorem dX12_isSeed_20 : decode cX12_isSeed 20 = .ok (.goto 4, 3) := by decide +kernel
theorem dX12_isSeed_23 : decode cX12_isSeed 23 = .ok (.iconst 0, 1) := by decide +kernel
theorem dX12_isSeed_24 : decode cX12_isSeed 24 = .ok (.ireturn, 1) := by decide +kernel
theorem dX12_drawn_0 : decode cX12_drawn 0 = .ok (.aload_n 0, 1) := by decide +kernel
theorem dX12_drawn_1 : decode cX12_drawn 1 = .ok (.iload_n 1, 1) := by decide +kernel
theorem dX12_drawn_2 : decode cX12_drawn 2 = .ok (.invokevirtual 464, 3) := by decide +kernel
theorem dX12_drawn_5 : decode cX12_drawn 5 = .ok (.ifCond .eq 15, 3) := by decide +kernel
theorem dX12_drawn_8 : decode cX12_drawn 8 = .ok (.iload_n 2, 1) := by decide +kernel
theorem dX12_drawn_9 : decode cX12_drawn 9 = .ok (.i2l, 1) := by decide +kernel
theorem dX12_drawn_10 : decode cX12_drawn 10 = .ok (.lconst 0, 1) := by decide +kernel
theorem dX12_drawn_11 : decode cX12_drawn 11 = .ok (.ldc2_w 68, 3) := by decide +kernel
theorem dX12_drawn_14 : decode cX12_drawn 14 = .ok (.invokestatic 70, 3) := by decide +kernel
theorem dX12_drawn_17 : decode cX12_drawn 17 = .ok (.ifCond .ne 6, 3) := by decide +kernel
theorem dX12_drawn_20 : decode cX12_drawn 20 = .ok (.bipush (-2), 2) := by decide +kernel
theorem dX12_drawn_22 : decode cX12_drawn 22 = .ok (.ireturn, 1) := by decide +kernel
theorem dX12_drawn_23 : decode cX12_drawn 23 = .ok (.aload_n 0, 1) := by decide +kernel
theorem dX12_drawn_24 : decode cX12_drawn 24 = .ok (.iload_n 1, 1) := by decide +kernel
theorem dX12_drawn_25 : decode cX12_drawn 25 = .ok (.i2l, 1) := by decide +kernel
theorem dX12_drawn_26 : decode cX12_drawn 26 = .ok (.invokevirtual 467, 3) := by decide +kernel
theorem dX12_drawn_29 : decode cX12_drawn 29 = .ok (.istore_n 3, 1) := by decide +kernel
theorem dX12_drawn_30 : decode cX12_drawn 30 = .ok (.iload_n 2, 1) := by decide +kernel
theorem dX12_drawn_31 : decode cX12_drawn 31 = .ok (.ifCond .ne 5, 3) := by decide +kernel
theorem dX12_drawn_34 : decode cX12_drawn 34 = .ok (.iload_n 3, 1) := by decide +kernel
theorem dX12_drawn_35 : decode cX12_drawn 35 = .ok (.ireturn, 1) := by decide +kernel
theorem dX12_drawn_36 : decode cX12_drawn 36 = .ok (.iload_n 3, 1) := by decide +kernel
theorem dX12_drawn_37 : decode cX12_drawn 37 = .ok (.iconst (-1), 1) := by decide +kernel
theorem dX12_drawn_38 : decode cX12_drawn 38 = .ok (.if_icmp .ne 14, 3) := by decide +kernel
theorem dX12_drawn_41 : decode cX12_drawn 41 = .ok (.iload_n 2, 1) := by decide +kernel
theorem dX12_drawn_42 : decode cX12_drawn 42 = .ok (.iconst 1, 1) := by decide +kernel
theorem dX12_drawn_43 : decode cX12_drawn 43 = .ok (.if_icmp .ne 7, 3) := by decide +kernel
theorem dX12_drawn_46 : decode cX12_drawn 46 = .ok (.iconst (-1), 1) := by decide +kernel
theorem dX12_drawn_47 : decode cX12_drawn 47 = .ok (.goto 4, 3) := by decide +kernel
theorem dX12_drawn_50 : decode cX12_drawn 50 = .ok (.iconst 0, 1) := by decide +kernel
theorem dX12_drawn_51 : decode cX12_drawn 51 = .ok (.ireturn, 1) := by decide +kernel
theorem dX12_drawn_52 : decode cX12_drawn 52 = .ok (.iload_n 2, 1) := by decide +kernel
theorem dX12_drawn_53 : decode cX12_drawn 53 = .ok (.iconst 1, 1) := by decide +kernel
theorem dX12_drawn_54 : decode cX12_drawn 54 = .ok (.if_icmp .ne 11, 3) := by decide +kernel
theorem dX12_drawn_57 : decode cX12_drawn 57 = .ok (.aload_n 0, 1) := by decide +kernel
theorem dX12_drawn_58 : decode cX12_drawn 58 = .ok (.iload_n 3, 1) := by decide +kernel
theorem dX12_drawn_59 : decode cX12_drawn 59 = .ok (.invokevirtual 269, 3) := by decide +kernel
theorem dX12_drawn_62 : decode cX12_drawn 62 = .ok (.goto 8, 3) := by decide +kernel
theorem dX12_drawn_65 : decode cX12_drawn 65 = .ok (.aload_n 0, 1) := by decide +kernel
theorem dX12_drawn_66 : decode cX12_drawn 66 = .ok (.iload_n 3, 1) := by decide +kernel
theorem dX12_drawn_67 : decode cX12_drawn 67 = .ok (.invokevirtual 258, 3) := by decide +kernel
theorem dX12_drawn_70 : decode cX12_drawn 70 = .ok (.ireturn, 1) := by decide +kernel
theorem dX12_luck_0 : decode cX12_luck 0 = .ok (.aload_n 0, 1) := by decide +kernel
theorem dX12_luck_1 : decode cX12_luck 1 = .ok (.iload_n 1, 1) := by decide +kernel
theorem dX12_luck_2 : decode cX12_luck 2 = .ok (.invokevirtual 464, 3) := by decide +kernel
theorem dX12_luck_5 : decode cX12_luck 5 = .ok (.ifCond .eq 23, 3) := by decide +kernel
theorem dX12_luck_8 : decode cX12_luck 8 = .ok (.iload_n 2, 1) := by decide +kernel
theorem dX12_luck_9 : decode cX12_luck 9 = .ok (.i2l, 1) := by decide +kernel
theorem dX12_luck_10 : decode cX12_luck 10 = .ok (.lconst 1, 1) := by decide +kernel
theorem dX12_luck_11 : decode cX12_luck 11 = .ok (.ldc2_w 471, 3) := by decide +kernel
theorem dX12_luck_14 : decode cX12_luck 14 = .ok (.invokestatic 70, 3) := by decide +kernel
theorem dX12_luck_17 : decode cX12_luck 17 = .ok (.ifCond .eq 11, 3) := by decide +kernel
theorem dX12_luck_20 : decode cX12_luck 20 = .ok (.aload_n 0, 1) := by decide +kernel
theorem dX12_luck_21 : decode cX12_luck 21 = .ok (.iload_n 3, 1) := by decide +kernel
theorem dX12_luck_22 : decode cX12_luck 22 = .ok (.invokevirtual 236, 3) := by decide +kernel
theorem dX12_luck_25 : decode cX12_luck 25 = .ok (.ifCond .ne 6, 3) := by decide +kernel
theorem dX12_luck_28 : decode cX12_luck 28 = .ok (.bipush (-2), 2) := by decide +kernel
theorem dX12_luck_30 : decode cX12_luck 30 = .ok (.ireturn, 1) := by decide +kernel
theorem dX12_luck_31 : decode cX12_luck 31 = .ok (.iconst 0, 1) := by decide +kernel
theorem dX12_luck_32 : decode cX12_luck 32 = .ok (.istore 4, 2) := by decide +kernel
theorem dX12_luck_34 : decode cX12_luck 34 = .ok (.iconst 0, 1) := by decide +kernel
theorem dX12_luck_35 : decode cX12_luck 35 = .ok (.istore 5, 2) := by decide +kernel
theorem dX12_luck_37 : decode cX12_luck 37 = .ok (.iload 5, 2) := by decide +kernel
theorem dX12_luck_39 : decode cX12_luck 39 = .ok (.iload_n 2, 1) := by decide +kernel
theorem dX12_luck_40 : decode cX12_luck 40 = .ok (.if_icmp .ge 47, 3) := by decide +kernel
theorem dX12_luck_43 : decode cX12_luck 43 = .ok (.aload_n 0, 1) := by decide +kernel
theorem dX12_luck_44 : decode cX12_luck 44 = .ok (.iload_n 1, 1) := by decide +kernel
theorem dX12_luck_45 : decode cX12_luck 45 = .ok (.i2l, 1) := by decide +kernel
theorem dX12_luck_46 : decode cX12_luck 46 = .ok (.iload 5, 2) := by decide +kernel
theorem dX12_luck_48 : decode cX12_luck 48 = .ok (.i2l, 1) := by decide +kernel
theorem dX12_luck_49 : decode cX12_luck 49 = .ok (.ladd, 1) := by decide +kernel
theorem dX12_luck_50 : decode cX12_luck 50 = .ok (.invokevirtual 467, 3) := by decide +kernel
theorem dX12_luck_53 : decode cX12_luck 53 = .ok (.istore 6, 2) := by decide +kernel
theorem dX12_luck_55 : decode cX12_luck 55 = .ok (.iload 4, 2) := by decide +kernel
theorem dX12_luck_57 : decode cX12_luck 57 = .ok (.iload 6, 2) := by decide +kernel
theorem dX12_luck_59 : decode cX12_luck 59 = .ok (.iconst (-1), 1) := by decide +kernel
theorem dX12_luck_60 : decode cX12_luck 60 = .ok (.if_icmp .eq 17, 3) := by decide +kernel
theorem dX12_luck_63 : decode cX12_luck 63 = .ok (.aload_n 0, 1) := by decide +kernel
theorem dX12_luck_64 : decode cX12_luck 64 = .ok (.iload 6, 2) := by decide +kernel
theorem dX12_luck_66 : decode cX12_luck 66 = .ok (.invokevirtual 269, 3) := by decide +kernel
theorem dX12_luck_69 : decode cX12_luck 69 = .ok (.iload_n 3, 1) := by decide +kernel
theorem dX12_luck_70 : decode cX12_luck 70 = .ok (.if_icmp .ne 7, 3) := by decide +kernel
theorem dX12_luck_73 : decode cX12_luck 73 = .ok (.iconst 1, 1) := by decide +kernel
theorem dX12_luck_74 : decode cX12_luck 74 = .ok (.goto 4, 3) := by decide +kernel
theorem dX12_luck_77 : decode cX12_luck 77 = .ok (.iconst 0, 1) := by decide +kernel
theorem dX12_luck_78 : decode cX12_luck 78 = .ok (.iadd, 1) := by decide +kernel
theorem dX12_luck_79 : decode cX12_luck 79 = .ok (.istore 4, 2) := by decide +kernel
theorem dX12_luck_81 : decode cX12_luck 81 = .ok (.iinc 5 1, 3) := by decide +kernel
theorem dX12_luck_84 : decode cX12_luck 84 = .ok (.goto (-47), 3) := by decide +kernel
theorem dX12_luck_87 : decode cX12_luck 87 = .ok (.iload 4, 2) := by decide +kernel
theorem dX12_luck_89 : decode cX12_luck 89 = .ok (.ireturn, 1) := by decide +kernel
theorem dX12_count_0 : decode cX12_count 0 = .ok (.iconst 0, 1) := by decide +kernel
theorem dX12_count_1 : decode cX12_count 1 = .ok (.istore_n 2, 1) := by decide +kernel
theorem dX12_count_2 : decode cX12_count 2 = .ok (.iload_n 1, 1) := by decide +kernel
theorem dX12_count_3 : decode cX12_count 3 = .ok (.tableswitch 185 0 12 #[65, 72, 79, 86, 93, 100, 107, 115, 123, 131, 139, 144, 152], 65) := by decide +kernel
theorem dX12_count_68 : decode cX12_count 68 = .ok (.aload_n 0, 1) := by decide +kernel
theorem dX12_count_69 : decode cX12_count 69 = .ok (.getfield 9, 3) := by decide +kernel
theorem dX12_count_72 : decode cX12_count 72 = .ok (.iconst 0, 1) := by decide +kernel
theorem dX12_count_73 : decode cX12_count 73 = .ok (.iaload, 1) := by decide +kernel
theorem dX12_count_74 : decode cX12_count 74 = .ok (.ireturn, 1) := by decide +kernel
theorem dX12_count_75 : decode cX12_count 75 = .ok (.aload_n 0, 1) := by decide +kernel
theorem dX12_count_76 : decode cX12_count 76 = .ok (.getfield 9, 3) := by decide +kernel
theorem dX12_count_79 : decode cX12_count 79 = .ok (.iconst 1, 1) := by decide +kernel
theorem dX12_count_80 : decode cX12_count 80 = .ok (.iaload, 1) := by decide +kernel
theorem dX12_count_81 : decode cX12_count 81 = .ok (.ireturn, 1) := by decide +kernel
theorem dX12_count_82 : decode cX12_count 82 = .ok (.aload_n 0, 1) := by decide +kernel
theorem dX12_count_83 : decode cX12_count 83 = .ok (.getfield 9, 3) := by decide +kernel
theorem dX12_count_86 : decode cX12_count 86 = .ok (.iconst 2, 1) := by decide +kernel
theorem dX12_count_87 : decode cX12_count 87 = .ok (.iaload, 1) := by decide +kernel
theorem dX12_count_88 : decode cX12_count 88 = .ok (.ireturn, 1) := by decide +kernel
theorem dX12_count_89 : decode cX12_count 89 = .ok (.aload_n 0, 1) := by decide +kernel
theorem dX12_count_90 : decode cX12_count 90 = .ok (.getfield 9, 3) := by decide +kernel
theorem dX12_count_93 : decode cX12_count 93 = .ok (.iconst 3, 1) := by decide +kernel
theorem dX12_count_94 : decode cX12_count 94 = .ok (.iaload, 1) := by decide +kernel
theorem dX12_count_95 : decode cX12_count 95 = .ok (.ireturn, 1) := by decide +kernel
theorem dX12_count_96 : decode cX12_count 96 = .ok (.aload_n 0, 1) := by decide +kernel
theorem dX12_count_97 : decode cX12_count 97 = .ok (.getfield 9, 3) := by decide +kernel
theorem dX12_count_100 : decode cX12_count 100 = .ok (.iconst 4, 1) := by decide +kernel
theorem dX12_count_101 : decode cX12_count 101 = .ok (.iaload, 1) := by decide +kernel
theorem dX12_count_102 : decode cX12_count 102 = .ok (.ireturn, 1) := by decide +kernel
theorem dX12_count_103 : decode cX12_count 103 = .ok (.aload_n 0, 1) := by decide +kernel
theorem dX12_count_104 : decode cX12_count 104 = .ok (.getfield 9, 3) := by decide +kernel
theorem dX12_count_107 : decode cX12_count 107 = .ok (.iconst 5, 1) := by decide +kernel
theorem dX12_count_108 : decode cX12_count 108 = .ok (.iaload, 1) := by decide +kernel
theorem dX12_count_109 : decode cX12_count 109 = .ok (.ireturn, 1) := by decide +kernel
theorem dX12_count_110 : decode cX12_count 110 = .ok (.aload_n 0, 1) := by decide +kernel
theorem dX12_count_111 : decode cX12_count 111 = .ok (.getfield 9, 3) := by decide +kernel
theorem dX12_count_114 : decode cX12_count 114 = .ok (.bipush 6, 2) := by decide +kernel
theorem dX12_count_116 : decode cX12_count 116 = .ok (.iaload, 1) := by decide +kernel
theorem dX12_count_117 : decode cX12_count 117 = .ok (.ireturn, 1) := by decide +kernel
theorem dX12_count_118 : decode cX12_count 118 = .ok (.aload_n 0, 1) := by decide +kernel
theorem dX12_count_119 : decode cX12_count 119 = .ok (.getfield 9, 3) := by decide +kernel
theorem dX12_count_122 : decode cX12_count 122 = .ok (.bipush 7, 2) := by decide +kernel
theorem dX12_count_124 : decode cX12_count 124 = .ok (.iaload, 1) := by decide +kernel
theorem dX12_count_125 : decode cX12_count 125 = .ok (.ireturn, 1) := by decide +kernel
theorem dX12_count_126 : decode cX12_count 126 = .ok (.aload_n 0, 1) := by decide +kernel
theorem dX12_count_127 : decode cX12_count 127 = .ok (.getfield 9, 3) := by decide +kernel
theorem dX12_count_130 : decode cX12_count 130 = .ok (.bipush 8, 2) := by decide +kernel
theorem dX12_count_132 : decode cX12_count 132 = .ok (.iaload, 1) := by decide +kernel
theorem dX12_count_133 : decode cX12_count 133 = .ok (.ireturn, 1) := by decide +kernel
theorem dX12_count_134 : decode cX12_count 134 = .ok (.aload_n 0, 1) := by decide +kernel
theorem dX12_count_135 : decode cX12_count 135 = .ok (.getfield 9, 3) := by decide +kernel
theorem dX12_count_138 : decode cX12_count 138 = .ok (.bipush 9, 2) := by decide +kernel
theorem dX12_count_140 : decode cX12_count 140 = .ok (.iaload, 1) := by decide +kernel
theorem dX12_count_141 : decode cX12_count 141 = .ok (.ireturn, 1) := by decide +kernel
theorem dX12_count_142 : decode cX12_count 142 = .ok (.aload_n 0, 1) := by decide +kernel
theorem dX12_count_143 : decode cX12_count 143 = .ok (.getfield 89, 3) := by decide +kernel
theorem dX12_count_146 : decode cX12_count 146 = .ok (.ireturn, 1) := by decide +kernel
theorem dX12_count_147 : decode cX12_count 147 = .ok (.aload_n 0, 1) := by decide +kernel
theorem dX12_count_148 : decode cX12_count 148 = .ok (.getfield 9, 3) := by decide +kernel
theorem dX12_count_151 : decode cX12_count 151 = .ok (.bipush 10, 2) := by decide +kernel
theorem dX12_count_153 : decode cX12_count 153 = .ok (.iaload, 1) := by decide +kernel
theorem dX12_count_154 : decode cX12_count 154 = .ok (.ireturn, 1) := by decide +kernel
theorem dX12_count_155 : decode cX12_count 155 = .ok (.iconst 0, 1) := by decide +kernel
theorem dX12_count_156 : decode cX12_count 156 = .ok (.istore_n 3, 1) := by decide +kernel
theorem dX12_count_157 : decode cX12_count 157 = .ok (.iload_n 3, 1) := by decide +kernel
theorem dX12_count_158 : decode cX12_count 158 = .ok (.iconst 4, 1) := by decide +kernel
theorem dX12_count_159 : decode cX12_count 159 = .ok (.if_icmp .ge 27, 3) := by decide +kernel
theorem dX12_count_162 : decode cX12_count 162 = .ok (.iload_n 2, 1) := by decide +kernel
theorem dX12_count_163 : decode cX12_count 163 = .ok (.aload_n 0, 1) := by decide +kernel
theorem dX12_count_164 : decode cX12_count 164 = .ok (.getfield 52, 3) := by decide +kernel
theorem dX12_count_167 : decode cX12_count 167 = .ok (.iload_n 3, 1) := by decide +kernel
theorem dX12_count_168 : decode cX12_count 168 = .ok (.iaload, 1) := by decide +kernel
theorem dX12_count_169 : decode cX12_count 169 = .ok (.iconst (-1), 1) := by decide +kernel
theorem dX12_count_170 : decode cX12_count 170 = .ok (.if_icmp .ne 7, 3) := by decide +kernel
theorem dX12_count_173 : decode cX12_count 173 = .ok (.iconst 0, 1) := by decide +kernel
theorem dX12_count_174 : decode cX12_count 174 = .ok (.goto 4, 3) := by decide +kernel
theorem dX12_count_177 : decode cX12_count 177 = .ok (.iconst 1, 1) := by decide +kernel
theorem dX12_count_178 : decode cX12_count 178 = .ok (.iadd, 1) := by decide +kernel
theorem dX12_count_179 : decode cX12_count 179 = .ok (.istore_n 2, 1) := by decide +kernel
theorem dX12_count_180 : decode cX12_count 180 = .ok (.iinc 3 1, 3) := by decide +kernel
theorem dX12_count_183 : decode cX12_count 183 = .ok (.goto (-26), 3) := by decide +kernel
theorem dX12_count_186 : decode cX12_count 186 = .ok (.iload_n 2, 1) := by decide +kernel
theorem dX12_count_187 : decode cX12_count 187 = .ok (.ireturn, 1) := by decide +kernel
theorem dX12_count_188 : decode cX12_count 188 = .ok (.iconst (-1), 1) := by decide +kernel
theorem dX12_count_189 : decode cX12_count 189 = .ok (.ireturn, 1) := by decide +kernel
theorem dX12_isSlot_0 : decode cX12_isSlot 0 = .ok (.iload_n 0, 1) := by decide +kernel
theorem dX12_isSlot_1 : decode cX12_isSlot 1 = .ok (.i2l, 1) := by decide +kernel
theorem dX12_isSlot_2 : decode cX12_isSlot 2 = .ok (.lconst 0, 1) := by decide +kernel
theorem dX12_isSlot_3 : decode cX12_isSlot 3 = .ok (.ldc2_w 242, 3) := by decide +kernel
theorem dX12_isSlot_6 : decode cX12_isSlot 6 = .ok (.invokestatic 70, 3) := by decide +kernel
theorem dX12_isSlot_9 : decode cX12_isSlot 9 = .ok (.ireturn, 1) := by decide +kernel
theorem dX12_cut_0 : decode cX12_cut 0 = .ok (.bipush 64, 2) := by decide +kernel
theorem dX12_cut_2 : decode cX12_cut 2 = .ok (.bipush 8, 2) := by decide +kernel
theorem dX12_cut_4 : decode cX12_cut 4 = .ok (.iload_n 2, 1) := by decide +kernel
theorem dX12_cut_5 : decode cX12_cut 5 = .ok (.ishl, 1) := by decide +kernel
theorem dX12_cut_6 : decode cX12_cut 6 = .ok (.isub, 1) := by decide +kernel
theorem dX12_cut_7 : decode cX12_cut 7 = .ok (.istore_n 3, 1) := by decide +kernel
theorem dX12_cut_8 : decode cX12_cut 8 = .ok (.lload_n 0, 1) := by decide +kernel
theorem dX12_cut_9 : decode cX12_cut 9 = .ok (.iload_n 3, 1) := by decide +kernel
theorem dX12_cut_10 : decode cX12_cut 10 = .ok (.lshl, 1) := by decide +kernel
theorem dX12_cut_11 : decode cX12_cut 11 = .ok (.iload_n 3, 1) := by decide +kernel
theorem dX12_cut_12 : decode cX12_cut 12 = .ok (.lshr, 1) := by decide +kernel
theorem dX12_cut_13 : decode cX12_cut 13 = .ok (.lreturn, 1) := by decide +kernel
theorem dX12_row_0 : decode cX12_row 0 = .ok (.iload_n 1, 1) := by decide +kernel
theorem dX12_row_1 : decode cX12_row 1 = .ok (.invokestatic 473, 3) := by decide +kernel
theorem dX12_row_4 : decode cX12_row 4 = .ok (.ifCond .eq 21, 3) := by decide +kernel
theorem dX12_row_7 : decode cX12_row 7 = .ok (.iload_n 2, 1) := by decide +kernel
theorem dX12_row_8 : decode cX12_row 8 = .ok (.i2l, 1) := by decide +kernel
theorem dX12_row_9 : decode cX12_row 9 = .ok (.lconst 0, 1) := by decide +kernel
theorem dX12_row_10 : decode cX12_row 10 = .ok (.ldc2_w 242, 3) := by decide +kernel
theorem dX12_row_13 : decode cX12_row 13 = .ok (.invokestatic 70, 3) := by decide +kernel
theorem dX12_row_16 : decode cX12_row 16 = .ok (.ifCond .eq 9, 3) := by decide +kernel
theorem dX12_row_19 : decode cX12_row 19 = .ok (.iload_n 3, 1) := by decide +kernel
theorem dX12_row_20 : decode cX12_row 20 = .ok (.bipush 60, 2) := by decide +kernel
theorem dX12_row_22 : decode cX12_row 22 = .ok (.if_icmp .le 6, 3) := by decide +kernel
theorem dX12_row_25 : decode cX12_row 25 = .ok (.bipush (-2), 2) := by decide +kernel
theorem dX12_row_27 : decode cX12_row 27 = .ok (.ireturn, 1) := by decide +kernel
theorem dX12_row_28 : decode cX12_row 28 = .ok (.iload_n 3, 1) := by decide +kernel
theorem dX12_row_29 : decode cX12_row 29 = .ok (.ifCond .ge 6, 3) := by decide +kernel
theorem dX12_row_32 : decode cX12_row 32 = .ok (.bipush (-3), 2) := by decide +kernel
theorem dX12_row_34 : decode cX12_row 34 = .ok (.ireturn, 1) := by decide +kernel
theorem dX12_row_35 : decode cX12_row 35 = .ok (.aload_n 0, 1) := by decide +kernel
theorem dX12_row_36 : decode cX12_row 36 = .ok (.getfield 52, 3) := by decide +kernel
theorem dX12_row_39 : decode cX12_row 39 = .ok (.iload_n 1, 1) := by decide +kernel
theorem dX12_row_40 : decode cX12_row 40 = .ok (.iload_n 3, 1) := by decide +kernel
theorem dX12_row_41 : decode cX12_row 41 = .ok (.iastore, 1) := by decide +kernel
theorem dX12_row_42 : decode cX12_row 42 = .ok (.aload_n 0, 1) := by decide +kernel
theorem dX12_row_43 : decode cX12_row 43 = .ok (.getfield 55, 3) := by decide +kernel
theorem dX12_row_46 : decode cX12_row 46 = .ok (.iload_n 1, 1) := by decide +kernel
theorem dX12_row_47 : decode cX12_row 47 = .ok (.iload_n 2, 1) := by decide +kernel
theorem dX12_row_48 : decode cX12_row 48 = .ok (.iastore, 1) := by decide +kernel
theorem dX12_row_49 : decode cX12_row 49 = .ok (.iconst 0, 1) := by decide +kernel
theorem dX12_row_50 : decode cX12_row 50 = .ok (.istore 4, 2) := by decide +kernel
theorem dX12_row_52 : decode cX12_row 52 = .ok (.iload 4, 2) := by decide +kernel
theorem dX12_row_54 : decode cX12_row 54 = .ok (.bipush 60, 2) := by decide +kernel
theorem dX12_row_56 : decode cX12_row 56 = .ok (.if_icmp .ge 22, 3) := by decide +kernel
theorem dX12_row_59 : decode cX12_row 59 = .ok (.aload_n 0, 1) := by decide +kernel
theorem dX12_row_60 : decode cX12_row 60 = .ok (.getfield 58, 3) := by decide +kernel
theorem dX12_row_63 : decode cX12_row 63 = .ok (.bipush 60, 2) := by decide +kernel
theorem dX12_row_65 : decode cX12_row 65 = .ok (.iload_n 1, 1) := by decide +kernel
theorem dX12_row_66 : decode cX12_row 66 = .ok (.imul, 1) := by decide +kernel
theorem dX12_row_67 : decode cX12_row 67 = .ok (.iload 4, 2) := by decide +kernel
theorem dX12_row_69 : decode cX12_row 69 = .ok (.iadd, 1) := by decide +kernel
theorem dX12_row_70 : decode cX12_row 70 = .ok (.lconst 0, 1) := by decide +kernel
theorem dX12_row_71 : decode cX12_row 71 = .ok (.lastore, 1) := by decide +kernel
theorem dX12_row_72 : decode cX12_row 72 = .ok (.iinc 4 1, 3) := by decide +kernel
theorem dX12_row_75 : decode cX12_row 75 = .ok (.goto (-23), 3) := by decide +kernel
theorem dX12_row_78 : decode cX12_row 78 = .ok (.iconst 0, 1) := by decide +kernel
theorem dX12_row_79 : decode cX12_row 79 = .ok (.ireturn, 1) := by decide +kernel
theorem dX12_write_0 : decode cX12_write 0 = .ok (.iload_n 1, 1) := by decide +kernel
theorem dX12_write_1 : decode cX12_write 1 = .ok (.invokestatic 473, 3) := by decide +kernel
theorem dX12_write_4 : decode cX12_write 4 = .ok (.ifCond .ne 6, 3) := by decide +kernel
theorem dX12_write_7 : decode cX12_write 7 = .ok (.bipush (-2), 2) := by decide +kernel
theorem dX12_write_9 : decode cX12_write 9 = .ok (.ireturn, 1) := by decide +kernel
theorem dX12_write_10 : decode cX12_write 10 = .ok (.aload_n 0, 1) := by decide +kernel
theorem dX12_write_11 : decode cX12_write 11 = .ok (.getfield 52, 3) := by decide +kernel
theorem dX12_write_14 : decode cX12_write 14 = .ok (.iload_n 1, 1) := by decide +kernel
theorem dX12_write_15 : decode cX12_write 15 = .ok (.iaload, 1) := by decide +kernel
theorem dX12_write_16 : decode cX12_write 16 = .ok (.iconst (-1), 1) := by decide +kernel
theorem dX12_write_17 : decode cX12_write 17 = .ok (.if_icmp .ne 6, 3) := by decide +kernel
theorem dX12_write_20 : decode cX12_write 20 = .ok (.bipush (-6), 2) := by decide +kernel
theorem dX12_write_22 : decode cX12_write 22 = .ok (.ireturn, 1) := by decide +kernel
theorem dX12_write_23 : decode cX12_write 23 = .ok (.iload_n 2, 1) := by decide +kernel
theorem dX12_write_24 : decode cX12_write 24 = .ok (.i2l, 1) := by decide +kernel
theorem dX12_write_25 : decode cX12_write 25 = .ok (.lconst 0, 1) := by decide +kernel
theorem dX12_write_26 : decode cX12_write 26 = .ok (.aload_n 0, 1) := by decide +kernel
theorem dX12_write_27 : decode cX12_write 27 = .ok (.getfield 52, 3) := by decide +kernel
theorem dX12_write_30 : decode cX12_write 30 = .ok (.iload_n 1, 1) := by decide +kernel
theorem dX12_write_31 : decode cX12_write 31 = .ok (.iaload, 1) := by decide +kernel
theorem dX12_write_32 : decode cX12_write 32 = .ok (.iconst 1, 1) := by decide +kernel
theorem dX12_write_33 : decode cX12_write 33 = .ok (.isub, 1) := by decide +kernel
theorem dX12_write_34 : decode cX12_write 34 = .ok (.i2l, 1) := by decide +kernel
theorem dX12_write_35 : decode cX12_write 35 = .ok (.invokestatic 70, 3) := by decide +kernel
theorem dX12_write_38 : decode cX12_write 38 = .ok (.ifCond .ne 6, 3) := by decide +kernel
theorem dX12_write_41 : decode cX12_write 41 = .ok (.bipush (-7), 2) := by decide +kernel
theorem dX12_write_43 : decode cX12_write 43 = .ok (.ireturn, 1) := by decide +kernel
theorem dX12_write_44 : decode cX12_write 44 = .ok (.aload_n 0, 1) := by decide +kernel
theorem dX12_write_45 : decode cX12_write 45 = .ok (.getfield 58, 3) := by decide +kernel
theorem dX12_write_48 : decode cX12_write 48 = .ok (.bipush 60, 2) := by decide +kernel
theorem dX12_write_50 : decode cX12_write 50 = .ok (.iload_n 1, 1) := by decide +kernel
theorem dX12_write_51 : decode cX12_write 51 = .ok (.imul, 1) := by decide +kernel
theorem dX12_write_52 : decode cX12_write 52 = .ok (.iload_n 2, 1) := by decide +kernel
theorem dX12_write_53 : decode cX12_write 53 = .ok (.iadd, 1) := by decide +kernel
theorem dX12_write_54 : decode cX12_write 54 = .ok (.lload_n 3, 1) := by decide +kernel
theorem dX12_write_55 : decode cX12_write 55 = .ok (.aload_n 0, 1) := by decide +kernel
theorem dX12_write_56 : decode cX12_write 56 = .ok (.getfield 55, 3) := by decide +kernel
theorem dX12_write_59 : decode cX12_write 59 = .ok (.iload_n 1, 1) := by decide +kernel
theorem dX12_write_60 : decode cX12_write 60 = .ok (.iaload, 1) := by decide +kernel
theorem dX12_write_61 : decode cX12_write 61 = .ok (.invokestatic 476, 3) := by decide +kernel
theorem dX12_write_64 : decode cX12_write 64 = .ok (.lastore, 1) := by decide +kernel
theorem dX12_write_65 : decode cX12_write 65 = .ok (.iconst 0, 1) := by decide +kernel
theorem dX12_write_66 : decode cX12_write 66 = .ok (.ireturn, 1) := by decide +kernel
theorem dX12_paste_0 : decode cX12_paste 0 = .ok (.iload_n 1, 1) := by decide +kernel
theorem dX12_paste_1 : decode cX12_paste 1 = .ok (.invokestatic 473, 3) := by decide +kernel
theorem dX12_paste_4 : decode cX12_paste 4 = .ok (.ifCond .eq 10, 3) := by decide +kernel
theorem dX12_paste_7 : decode cX12_paste 7 = .ok (.iload_n 3, 1) := by decide +kernel
theorem dX12_paste_8 : decode cX12_paste 8 = .ok (.invokestatic 473, 3) := by decide +kernel
theorem dX12_paste_11 : decode cX12_paste 11 = .ok (.ifCond .ne 6, 3) := by decide +kernel
theorem dX12_paste_14 : decode cX12_paste 14 = .ok (.bipush (-2), 2) := by decide +kernel
theorem dX12_paste_16 : decode cX12_paste 16 = .ok (.ireturn, 1) := by decide +kernel
theorem dX12_paste_17 : decode cX12_paste 17 = .ok (.aload_n 0, 1) := by decide +kernel
theorem dX12_paste_18 : decode cX12_paste 18 = .ok (.getfield 52, 3) := by decide +kernel
theorem dX12_paste_21 : decode cX12_paste 21 = .ok (.iload_n 1, 1) := by decide +kernel
theorem dX12_paste_22 : decode cX12_paste 22 = .ok (.iaload, 1) := by decide +kernel
theorem dX12_paste_23 : decode cX12_paste 23 = .ok (.iconst (-1), 1) := by decide +kernel
theorem dX12_paste_24 : decode cX12_paste 24 = .ok (.if_icmp .eq 13, 3) := by decide +kernel
theorem dX12_paste_27 : decode cX12_paste 27 = .ok (.aload_n 0, 1) := by decide +kernel
theorem dX12_paste_28 : decode cX12_paste 28 = .ok (.getfield 52, 3) := by decide +kernel
theorem dX12_paste_31 : decode cX12_paste 31 = .ok (.iload_n 3, 1) := by decide +kernel
theorem dX12_paste_32 : decode cX12_paste 32 = .ok (.iaload, 1) := by decide +kernel
theorem dX12_paste_33 : decode cX12_paste 33 = .ok (.iconst (-1), 1) := by decide +kernel
theorem dX12_paste_34 : decode cX12_paste 34 = .ok (.if_icmp .ne 6, 3) := by decide +kernel
theorem dX12_paste_37 : decode cX12_paste 37 = .ok (.bipush (-6), 2) := by decide +kernel
theorem dX12_paste_39 : decode cX12_paste 39 = .ok (.ireturn, 1) := by decide +kernel
theorem dX12_paste_40 : decode cX12_paste 40 = .ok (.aload_n 0, 1) := by decide +kernel
theorem dX12_paste_41 : decode cX12_paste 41 = .ok (.getfield 55, 3) := by decide +kernel
theorem dX12_paste_44 : decode cX12_paste 44 = .ok (.iload_n 1, 1) := by decide +kernel
theorem dX12_paste_45 : decode cX12_paste 45 = .ok (.iaload, 1) := by decide +kernel
theorem dX12_paste_46 : decode cX12_paste 46 = .ok (.aload_n 0, 1) := by decide +kernel
theorem dX12_paste_47 : decode cX12_paste 47 = .ok (.getfield 55, 3) := by decide +kernel
theorem dX12_paste_50 : decode cX12_paste 50 = .ok (.iload_n 3, 1) := by decide +kernel
theorem dX12_paste_51 : decode cX12_paste 51 = .ok (.iaload, 1) := by decide +kernel
theorem dX12_paste_52 : decode cX12_paste 52 = .ok (.if_icmp .eq 6, 3) := by decide +kernel
theorem dX12_paste_55 : decode cX12_paste 55 = .ok (.bipush (-8), 2) := by decide +kernel
theorem dX12_paste_57 : decode cX12_paste 57 = .ok (.ireturn, 1) := by decide +kernel
theorem dX12_paste_58 : decode cX12_paste 58 = .ok (.iload_n 2, 1) := by decide +kernel
theorem dX12_paste_59 : decode cX12_paste 59 = .ok (.ifCond .lt 48, 3) := by decide +kernel
theorem dX12_paste_62 : decode cX12_paste 62 = .ok (.iload 4, 2) := by decide +kernel
theorem dX12_paste_64 : decode cX12_paste 64 = .ok (.ifCond .lt 43, 3) := by decide +kernel
theorem dX12_paste_67 : decode cX12_paste 67 = .ok (.iload 5, 2) := by decide +kernel
theorem dX12_paste_69 : decode cX12_paste 69 = .ok (.ifCond .lt 38, 3) := by decide +kernel
theorem dX12_paste_72 : decode cX12_paste 72 = .ok (.iload_n 2, 1) := by decide +kernel
theorem dX12_paste_73 : decode cX12_paste 73 = .ok (.i2l, 1) := by decide +kernel
theorem dX12_paste_74 : decode cX12_paste 74 = .ok (.iload 5, 2) := by decide +kernel
theorem dX12_paste_76 : decode cX12_paste 76 = .ok (.i2l, 1) := by decide +kernel
theorem dX12_paste_77 : decode cX12_paste 77 = .ok (.ladd, 1) := by decide +kernel
theorem dX12_paste_78 : decode cX12_paste 78 = .ok (.aload_n 0, 1) := by decide +kernel
theorem dX12_paste_79 : decode cX12_paste 79 = .ok (.getfield 52, 3) := by decide +kernel
theorem dX12_paste_82 : decode cX12_paste 82 = .ok (.iload_n 1, 1) := by decide +kernel
theorem dX12_paste_83 : decode cX12_paste 83 = .ok (.iaload, 1) := by decide +kernel
theorem dX12_paste_84 : decode cX12_paste 84 = .ok (.i2l, 1) := by decide +kernel
theorem dX12_paste_85 : decode cX12_paste 85 = .ok (.lcmp, 1) := by decide +kernel
theorem dX12_paste_86 : decode cX12_paste 86 = .ok (.ifCond .gt 21, 3) := by decide +kernel
theorem dX12_paste_89 : decode cX12_paste 89 = .ok (.iload 4, 2) := by decide +kernel
theorem dX12_paste_91 : decode cX12_paste 91 = .ok (.i2l, 1) := by decide +kernel
theorem dX12_paste_92 : decode cX12_paste 92 = .ok (.iload 5, 2) := by decide +kernel
theorem dX12_paste_94 : decode cX12_paste 94 = .ok (.i2l, 1) := by decide +kernel
theorem dX12_paste_95 : decode cX12_paste 95 = .ok (.ladd, 1) := by decide +kernel
theorem dX12_paste_96 : decode cX12_paste 96 = .ok (.aload_n 0, 1) := by decide +kernel
theorem dX12_paste_97 : decode cX12_paste 97 = .ok (.getfield 52, 3) := by decide +kernel
theorem dX12_paste_100 : decode cX12_paste 100 = .ok (.iload_n 3, 1) := by decide +kernel
theorem dX12_paste_101 : decode cX12_paste 101 = .ok (.iaload, 1) := by decide +kernel
theorem dX12_paste_102 : decode cX12_paste 102 = .ok (.i2l, 1) := by decide +kernel
theorem dX12_paste_103 : decode cX12_paste 103 = .ok (.lcmp, 1) := by decide +kernel
theorem dX12_paste_104 : decode cX12_paste 104 = .ok (.ifCond .le 6, 3) := by decide +kernel
theorem dX12_paste_107 : decode cX12_paste 107 = .ok (.bipush (-7), 2) := by decide +kernel
theorem dX12_paste_109 : decode cX12_paste 109 = .ok (.ireturn, 1) := by decide +kernel
theorem dX12_paste_110 : decode cX12_paste 110 = .ok (.iconst 0, 1) := by decide +kernel
theorem dX12_paste_111 : decode cX12_paste 111 = .ok (.istore 6, 2) := by decide +kernel
theorem dX12_paste_113 : decode cX12_paste 113 = .ok (.iload 6, 2) := by decide +kernel
theorem dX12_paste_115 : decode cX12_paste 115 = .ok (.iload 5, 2) := by decide +kernel
theorem dX12_paste_117 : decode cX12_paste 117 = .ok (.if_icmp .ge 30, 3) := by decide +kernel
theorem dX12_paste_120 : decode cX12_paste 120 = .ok (.aload_n 0, 1) := by decide +kernel
theorem dX12_paste_121 : decode cX12_paste 121 = .ok (.getfield 62, 3) := by decide +kernel
theorem dX12_paste_124 : decode cX12_paste 124 = .ok (.iload 6, 2) := by decide +kernel
theorem dX12_paste_126 : decode cX12_paste 126 = .ok (.aload_n 0, 1) := by decide +kernel
theorem dX12_paste_127 : decode cX12_paste 127 = .ok (.getfield 58, 3) := by decide +kernel
theorem dX12_paste_130 : decode cX12_paste 130 = .ok (.bipush 60, 2) := by decide +kernel
theorem dX12_paste_132 : decode cX12_paste 132 = .ok (.iload_n 1, 1) := by decide +kernel
theorem dX12_paste_133 : decode cX12_paste 133 = .ok (.imul, 1) := by decide +kernel
theorem dX12_paste_134 : decode cX12_paste 134 = .ok (.iload_n 2, 1) := by decide +kernel
theorem dX12_paste_135 : decode cX12_paste 135 = .ok (.iadd, 1) := by decide +kernel
theorem dX12_paste_136 : decode cX12_paste 136 = .ok (.iload 6, 2) := by decide +kernel
theorem dX12_paste_138 : decode cX12_paste 138 = .ok (.iadd, 1) := by decide +kernel
theorem dX12_paste_139 : decode cX12_paste 139 = .ok (.laload, 1) := by decide +kernel
theorem dX12_paste_140 : decode cX12_paste 140 = .ok (.lastore, 1) := by decide +kernel
theorem dX12_paste_141 : decode cX12_paste 141 = .ok (.iinc 6 1, 3) := by decide +kernel
theorem dX12_paste_144 : decode cX12_paste 144 = .ok (.goto (-31), 3) := by decide +kernel
theorem dX12_paste_147 : decode cX12_paste 147 = .ok (.iconst 0, 1) := by decide +kernel
theorem dX12_paste_148 : decode cX12_paste 148 = .ok (.istore 6, 2) := by decide +kernel
theorem dX12_paste_150 : decode cX12_paste 150 = .ok (.iload 6, 2) := by decide +kernel
theorem dX12_paste_152 : decode cX12_paste 152 = .ok (.iload 5, 2) := by decide +kernel
theorem dX12_paste_154 : decode cX12_paste 154 = .ok (.if_icmp .ge 31, 3) := by decide +kernel
theorem dX12_paste_157 : decode cX12_paste 157 = .ok (.aload_n 0, 1) := by decide +kernel
theorem dX12_paste_158 : decode cX12_paste 158 = .ok (.getfield 58, 3) := by decide +kernel
theorem dX12_paste_161 : decode cX12_paste 161 = .ok (.bipush 60, 2) := by decide +kernel
theorem dX12_paste_163 : decode cX12_paste 163 = .ok (.iload_n 3, 1) := by decide +kernel
theorem dX12_paste_164 : decode cX12_paste 164 = .ok (.imul, 1) := by decide +kernel
theorem dX12_paste_165 : decode cX12_paste 165 = .ok (.iload 4, 2) := by decide +kernel
theorem dX12_paste_167 : decode cX12_paste 167 = .ok (.iadd, 1) := by decide +kernel
theorem dX12_paste_168 : decode cX12_paste 168 = .ok (.iload 6, 2) := by decide +kernel
theorem dX12_paste_170 : decode cX12_paste 170 = .ok (.iadd, 1) := by decide +kernel
theorem dX12_paste_171 : decode cX12_paste 171 = .ok (.aload_n 0, 1) := by decide +kernel
theorem dX12_paste_172 : decode cX12_paste 172 = .ok (.getfield 62, 3) := by decide +kernel
theorem dX12_paste_175 : decode cX12_paste 175 = .ok (.iload 6, 2) := by decide +kernel
theorem dX12_paste_177 : decode cX12_paste 177 = .ok (.laload, 1) := by decide +kernel
theorem dX12_paste_178 : decode cX12_paste 178 = .ok (.lastore, 1) := by decide +kernel
theorem dX12_paste_179 : decode cX12_paste 179 = .ok (.iinc 6 1, 3) := by decide +kernel
theorem dX12_paste_182 : decode cX12_paste 182 = .ok (.goto (-32), 3) := by decide +kernel
theorem dX12_paste_185 : decode cX12_paste 185 = .ok (.iconst 0, 1) := by decide +kernel
theorem dX12_paste_186 : decode cX12_paste 186 = .ok (.ireturn, 1) := by decide +kernel
theorem dJ6_bitCount_0f7a4_0 : decode cJ6_bitCount_0f7a4 0 = .ok (.iload_n 0, 1) := by decide +kernel
theorem dJ6_bitCount_0f7a4_1 : decode cJ6_bitCount_0f7a4 1 = .ok (.iload_n 0, 1) := by decide +kernel
theorem dJ6_bitCount_0f7a4_2 : decode cJ6_bitCount_0f7a4 2 = .ok (.iconst 1, 1) := by decide +kernel
theorem dJ6_bitCount_0f7a4_3 : decode cJ6_bitCount_0f7a4 3 = .ok (.iushr, 1) := by decide +kernel
theorem dJ6_bitCount_0f7a4_4 : decode cJ6_bitCount_0f7a4 4 = .ok (.ldc_w 265, 3) := by decide +kernel
theorem dJ6_bitCount_0f7a4_7 : decode cJ6_bitCount_0f7a4 7 = .ok (.iand, 1) := by decide +kernel
theorem dJ6_bitCount_0f7a4_8 : decode cJ6_bitCount_0f7a4 8 = .ok (.isub, 1) := by decide +kernel
theorem dJ6_bitCount_0f7a4_9 : decode cJ6_bitCount_0f7a4 9 = .ok (.istore_n 0, 1) := by decide +kernel
theorem dJ6_bitCount_0f7a4_10 : decode cJ6_bitCount_0f7a4 10 = .ok (.iload_n 0, 1) := by decide +kernel
theorem dJ6_bitCount_0f7a4_11 : decode cJ6_bitCount_0f7a4 11 = .ok (.ldc_w 266, 3) := by decide +kernel
theorem dJ6_bitCount_0f7a4_14 : decode cJ6_bitCount_0f7a4 14 = .ok (.iand, 1) := by decide +kernel
theorem dJ6_bitCount_0f7a4_15 : decode cJ6_bitCount_0f7a4 15 = .ok (.iload_n 0, 1) := by decide +kernel
theorem dJ6_bitCount_0f7a4_16 : decode cJ6_bitCount_0f7a4 16 = .ok (.iconst 2, 1) := by decide +kernel
theorem dJ6_bitCount_0f7a4_17 : decode cJ6_bitCount_0f7a4 17 = .ok (.iushr, 1) := by decide +kernel
theorem dJ6_bitCount_0f7a4_18 : decode cJ6_bitCount_0f7a4 18 = .ok (.ldc_w 266, 3) := by decide +kernel
theorem dJ6_bitCount_0f7a4_21 : decode cJ6_bitCount_0f7a4 21 = .ok (.iand, 1) := by decide +kernel
theorem dJ6_bitCount_0f7a4_22 : decode cJ6_bitCount_0f7a4 22 = .ok (.iadd, 1) := by decide +kernel
theorem dJ6_bitCount_0f7a4_23 : decode cJ6_bitCount_0f7a4 23 = .ok (.istore_n 0, 1) := by decide +kernel
theorem dJ6_bitCount_0f7a4_24 : decode cJ6_bitCount_0f7a4 24 = .ok (.iload_n 0, 1) := by decide +kernel
theorem dJ6_bitCount_0f7a4_25 : decode cJ6_bitCount_0f7a4 25 = .ok (.iload_n 0, 1) := by decide +kernel
theorem dJ6_bitCount_0f7a4_26 : decode cJ6_bitCount_0f7a4 26 = .ok (.iconst 4, 1) := by decide +kernel
theorem dJ6_bitCount_0f7a4_27 : decode cJ6_bitCount_0f7a4 27 = .ok (.iushr, 1) := by decide +kernel
theorem dJ6_bitCount_0f7a4_28 : decode cJ6_bitCount_0f7a4 28 = .ok (.iadd, 1) := by decide +kernel
theorem dJ6_bitCount_0f7a4_29 : decode cJ6_bitCount_0f7a4 29 = .ok (.ldc_w 267, 3) := by decide +kernel
theorem dJ6_bitCount_0f7a4_32 : decode cJ6_bitCount_0f7a4 32 = .ok (.iand, 1) := by decide +kernel
theorem dJ6_bitCount_0f7a4_33 : decode cJ6_bitCount_0f7a4 33 = .ok (.istore_n 0, 1) := by decide +kernel
theorem dJ6_bitCount_0f7a4_34 : decode cJ6_bitCount_0f7a4 34 = .ok (.iload_n 0, 1) := by decide +kernel
theorem dJ6_bitCount_0f7a4_35 : decode cJ6_bitCount_0f7a4 35 = .ok (.iload_n 0, 1) := by decide +kernel
theorem dJ6_bitCount_0f7a4_36 : decode cJ6_bitCount_0f7a4 36 = .ok (.bipush 8, 2) := by decide +kernel
theorem dJ6_bitCount_0f7a4_38 : decode cJ6_bitCount_0f7a4 38 = .ok (.iushr, 1) := by decide +kernel
theorem dJ6_bitCount_0f7a4_39 : decode cJ6_bitCount_0f7a4 39 = .ok (.iadd, 1) := by decide +kernel
theorem dJ6_bitCount_0f7a4_40 : decode cJ6_bitCount_0f7a4 40 = .ok (.istore_n 0, 1) := by decide +kernel
theorem dJ6_bitCount_0f7a4_41 : decode cJ6_bitCount_0f7a4 41 = .ok (.iload_n 0, 1) := by decide +kernel
theorem dJ6_bitCount_0f7a4_42 : decode cJ6_bitCount_0f7a4 42 = .ok (.iload_n 0, 1) := by decide +kernel
theorem dJ6_bitCount_0f7a4_43 : decode cJ6_bitCount_0f7a4 43 = .ok (.bipush 16, 2) := by decide +kernel
theorem dJ6_bitCount_0f7a4_45 : decode cJ6_bitCount_0f7a4 45 = .ok (.iushr, 1) := by decide +kernel
theorem dJ6_bitCount_0f7a4_46 : decode cJ6_bitCount_0f7a4 46 = .ok (.iadd, 1) := by decide +kernel
theorem dJ6_bitCount_0f7a4_47 : decode cJ6_bitCount_0f7a4 47 = .ok (.istore_n 0, 1) := by decide +kernel
theorem dJ6_bitCount_0f7a4_48 : decode cJ6_bitCount_0f7a4 48 = .ok (.iload_n 0, 1) := by decide +kernel
theorem dJ6_bitCount_0f7a4_49 : decode cJ6_bitCount_0f7a4 49 = .ok (.bipush 63, 2) := by decide +kernel
theorem dJ6_bitCount_0f7a4_51 : decode cJ6_bitCount_0f7a4 51 = .ok (.iand, 1) := by decide +kernel
theorem dJ6_bitCount_0f7a4_52 : decode cJ6_bitCount_0f7a4 52 = .ok (.ireturn, 1) := by decide +kernel
theorem dJ9_abs_0f7a4_0 : decode cJ9_abs_0f7a4 0 = .ok (.iload_n 0, 1) := by decide +kernel
theorem dJ9_abs_0f7a4_1 : decode cJ9_abs_0f7a4 1 = .ok (.ifCond .ge 8, 3) := by decide +kernel
theorem dJ9_abs_0f7a4_4 : decode cJ9_abs_0f7a4 4 = .ok (.iload_n 0, 1) := by decide +kernel
theorem dJ9_abs_0f7a4_5 : decode cJ9_abs_0f7a4 5 = .ok (.ineg, 1) := by decide +kernel
theorem dJ9_abs_0f7a4_6 : decode cJ9_abs_0f7a4 6 = .ok (.goto 4, 3) := by decide +kernel
theorem dJ9_abs_0f7a4_9 : decode cJ9_abs_0f7a4 9 = .ok (.iload_n 0, 1) := by decide +kernel
theorem dJ9_abs_0f7a4_10 : decode cJ9_abs_0f7a4 10 = .ok (.ireturn, 1) := by decide +kernel
theorem dJ9_max_7cf53_0 : decode cJ9_max_7cf53 0 = .ok (.iload_n 0, 1) := by decide +kernel
theorem dJ9_max_7cf53_1 : decode cJ9_max_7cf53 1 = .ok (.iload_n 1, 1) := by decide +kernel
theorem dJ9_max_7cf53_2 : decode cJ9_max_7cf53 2 = .ok (.if_icmp .lt 7, 3) := by decide +kernel
theorem dJ9_max_7cf53_5 : decode cJ9_max_7cf53 5 = .ok (.iload_n 0, 1) := by decide +kernel
theorem dJ9_max_7cf53_6 : decode cJ9_max_7cf53 6 = .ok (.goto 4, 3) := by decide +kernel
theorem dJ9_max_7cf53_9 : decode cJ9_max_7cf53 9 = .ok (.iload_n 1, 1) := by decide +kernel
theorem dJ9_max_7cf53_10 : decode cJ9_max_7cf53 10 = .ok (.ireturn, 1) := by decide +kernel
theorem dJ9_max_f86c9_0 : decode cJ9_max_f86c9 0 = .ok (.lload_n 0, 1) := by decide +kernel
theorem dJ9_max_f86c9_1 : decode cJ9_max_f86c9 1 = .ok (.lload_n 2, 1) := by decide +kernel
theorem dJ9_max_f86c9_2 : decode cJ9_max_f86c9 2 = .ok (.lcmp, 1) := by decide +kernel
theorem dJ9_max_f86c9_3 : decode cJ9_max_f86c9 3 = .ok (.ifCond .lt 7, 3) := by decide +kernel
theorem dJ9_max_f86c9_6 : decode cJ9_max_f86c9 6 = .ok (.lload_n 0, 1) := by decide +kernel
theorem dJ9_max_f86c9_7 : decode cJ9_max_f86c9 7 = .ok (.goto 4, 3) := by decide +kernel
theorem dJ9_max_f86c9_10 : decode cJ9_max_f86c9 10 = .ok (.lload_n 2, 1) := by decide +kernel
theorem dJ9_max_f86c9_11 : decode cJ9_max_f86c9 11 = .ok (.lreturn, 1) := by decide +kernel
theorem dJ9_min_7cf53_0 : decode cJ9_min_7cf53 0 = .ok (.iload_n 0, 1) := by decide +kernel
theorem dJ9_min_7cf53_1 : decode cJ9_min_7cf53 1 = .ok (.iload_n 1, 1) := by decide +kernel
theorem dJ9_min_7cf53_2 : decode cJ9_min_7cf53 2 = .ok (.if_icmp .gt 7, 3) := by decide +kernel
theorem dJ9_min_7cf53_5 : decode cJ9_min_7cf53 5 = .ok (.iload_n 0, 1) := by decide +kernel
theorem dJ9_min_7cf53_6 : decode cJ9_min_7cf53 6 = .ok (.goto 4, 3) := by decide +kernel
theorem dJ9_min_7cf53_9 : decode cJ9_min_7cf53 9 = .ok (.iload_n 1, 1) := by decide +kernel
theorem dJ9_min_7cf53_10 : decode cJ9_min_7cf53 10 = .ok (.ireturn, 1) := by decide +kernel
theorem dJ0_length_8abf5_0 : decode cJ0_length_8abf5 0 = .ok (.aload_n 0, 1) := by decide +kernel
theorem dJ0_length_8abf5_1 : decode cJ0_length_8abf5 1 = .ok (.getfield 9, 3) := by decide +kernel
theorem dJ0_length_8abf5_4 : decode cJ0_length_8abf5 4 = .ok (.arraylength, 1) := by decide +kernel
theorem dJ0_length_8abf5_5 : decode cJ0_length_8abf5 5 = .ok (.aload_n 0, 1) := by decide +kernel
theorem dJ0_length_8abf5_6 : decode cJ0_length_8abf5 6 = .ok (.invokevirtual 335, 3) := by decide +kernel
theorem dJ0_length_8abf5_9 : decode cJ0_length_8abf5 9 = .ok (.ishr, 1) := by decide +kernel
theorem dJ0_length_8abf5_10 : decode cJ0_length_8abf5 10 = .ok (.ireturn, 1) := by decide +kernel
theorem dJ0_charAt_5068e_0 : decode cJ0_charAt_5068e 0 = .ok (.aload_n 0, 1) := by decide +kernel
theorem dJ0_charAt_5068e_1 : decode cJ0_charAt_5068e 1 = .ok (.invokevirtual 492, 3) := by decide +kernel
theorem dJ0_charAt_5068e_4 : decode cJ0_charAt_5068e 4 = .ok (.ifCond .eq 12, 3) := by decide +kernel
theorem dJ0_charAt_5068e_7 : decode cJ0_charAt_5068e 7 = .ok (.aload_n 0, 1) := by decide +kernel
theorem dJ0_charAt_5068e_8 : decode cJ0_charAt_5068e 8 = .ok (.getfield 9, 3) := by decide +kernel
theorem dJ0_charAt_5068e_11 : decode cJ0_charAt_5068e 11 = .ok (.iload_n 1, 1) := by decide +kernel
theorem dJ0_charAt_5068e_12 : decode cJ0_charAt_5068e 12 = .ok (.invokestatic 495, 3) := by decide +kernel
theorem dJ0_charAt_5068e_15 : decode cJ0_charAt_5068e 15 = .ok (.ireturn, 1) := by decide +kernel
theorem dJ0_charAt_5068e_16 : decode cJ0_charAt_5068e 16 = .ok (.aload_n 0, 1) := by decide +kernel
theorem dJ0_charAt_5068e_17 : decode cJ0_charAt_5068e 17 = .ok (.getfield 9, 3) := by decide +kernel
theorem dJ0_charAt_5068e_20 : decode cJ0_charAt_5068e 20 = .ok (.iload_n 1, 1) := by decide +kernel
theorem dJ0_charAt_5068e_21 : decode cJ0_charAt_5068e 21 = .ok (.invokestatic 498, 3) := by decide +kernel
theorem dJ0_charAt_5068e_24 : decode cJ0_charAt_5068e 24 = .ok (.ireturn, 1) := by decide +kernel
theorem dJ0_coder_7d493_0 : decode cJ0_coder_7d493 0 = .ok (.getstatic 38, 3) := by decide +kernel
theorem dJ0_coder_7d493_3 : decode cJ0_coder_7d493 3 = .ok (.ifCond .eq 10, 3) := by decide +kernel
theorem dJ0_coder_7d493_6 : decode cJ0_coder_7d493 6 = .ok (.aload_n 0, 1) := by decide +kernel
theorem dJ0_coder_7d493_7 : decode cJ0_coder_7d493 7 = .ok (.getfield 15, 3) := by decide +kernel
theorem dJ0_coder_7d493_10 : decode cJ0_coder_7d493 10 = .ok (.goto 4, 3) := by decide +kernel
theorem dJ0_coder_7d493_13 : decode cJ0_coder_7d493 13 = .ok (.iconst 1, 1) := by decide +kernel
theorem dJ0_coder_7d493_14 : decode cJ0_coder_7d493 14 = .ok (.ireturn, 1) := by decide +kernel
theorem dJ0_isLatin1_aae02_0 : decode cJ0_isLatin1_aae02 0 = .ok (.getstatic 38, 3) := by decide +kernel
theorem dJ0_isLatin1_aae02_3 : decode cJ0_isLatin1_aae02 3 = .ok (.ifCond .eq 14, 3) := by decide +kernel
theorem dJ0_isLatin1_aae02_6 : decode cJ0_isLatin1_aae02 6 = .ok (.aload_n 0, 1) := by decide +kernel
theorem dJ0_isLatin1_aae02_7 : decode cJ0_isLatin1_aae02 7 = .ok (.getfield 15, 3) := by decide +kernel
theorem dJ0_isLatin1_aae02_10 : decode cJ0_isLatin1_aae02 10 = .ok (.ifCond .ne 7, 3) := by decide +kernel
theorem dJ0_isLatin1_aae02_13 : decode cJ0_isLatin1_aae02 13 = .ok (.iconst 1, 1) := by decide +kernel
theorem dJ0_isLatin1_aae02_14 : decode cJ0_isLatin1_aae02 14 = .ok (.goto 4, 3) := by decide +kernel
theorem dJ0_isLatin1_aae02_17 : decode cJ0_isLatin1_aae02 17 = .ok (.iconst 0, 1) := by decide +kernel
theorem dJ0_isLatin1_aae02_18 : decode cJ0_isLatin1_aae02 18 = .ok (.ireturn, 1) := by decide +kernel
theorem dJ0_checkIndex_df160_0 : decode cJ0_checkIndex_df160 0 = .ok (.iload_n 0, 1) := by decide +kernel
theorem dJ0_checkIndex_df160_1 : decode cJ0_checkIndex_df160 1 = .ok (.iload_n 1, 1) := by decide +kernel
theorem dJ0_checkIndex_df160_2 : decode cJ0_checkIndex_df160 2 = .ok (.getstatic 1053, 3) := by decide +kernel
theorem dJ0_checkIndex_df160_5 : decode cJ0_checkIndex_df160 5 = .ok (.invokestatic 1059, 3) := by decide +kernel
theorem dJ0_checkIndex_df160_8 : decode cJ0_checkIndex_df160 8 = .ok (.pop, 1) := by decide +kernel
theorem dJ0_checkIndex_df160_9 : decode cJ0_checkIndex_df160 9 = .ok (.return_, 1) := by decide +kernel
theorem dJ1_charAt_3b067_0 : decode cJ1_charAt_3b067 0 = .ok (.iload_n 1, 1) := by decide +kernel
theorem dJ1_charAt_3b067_1 : decode cJ1_charAt_3b067 1 = .ok (.aload_n 0, 1) := by decide +kernel
theorem dJ1_charAt_3b067_2 : decode cJ1_charAt_3b067 2 = .ok (.arraylength, 1) := by decide +kernel
theorem dJ1_charAt_3b067_3 : decode cJ1_charAt_3b067 3 = .ok (.invokestatic 9, 3) := by decide +kernel
theorem dJ1_charAt_3b067_6 : decode cJ1_charAt_3b067 6 = .ok (.aload_n 0, 1) := by decide +kernel
theorem dJ1_charAt_3b067_7 : decode cJ1_charAt_3b067 7 = .ok (.iload_n 1, 1) := by decide +kernel
theorem dJ1_charAt_3b067_8 : decode cJ1_charAt_3b067 8 = .ok (.baload, 1) := by decide +kernel
theorem dJ1_charAt_3b067_9 : decode cJ1_charAt_3b067 9 = .ok (.sipush 255, 3) := by decide +kernel
theorem dJ1_charAt_3b067_12 : decode cJ1_charAt_3b067 12 = .ok (.iand, 1) := by decide +kernel
theorem dJ1_charAt_3b067_13 : decode cJ1_charAt_3b067 13 = .ok (.i2c, 1) := by decide +kernel
theorem dJ1_charAt_3b067_14 : decode cJ1_charAt_3b067 14 = .ok (.ireturn, 1) := by decide +kernel
theorem dJ2_getChar_3b067_0 : decode cJ2_getChar_3b067 0 = .ok (.getstatic 44, 3) := by decide +kernel
theorem dJ2_getChar_3b067_3 : decode cJ2_getChar_3b067 3 = .ok (.ifCond .ne 25, 3) := by decide +kernel
theorem dJ2_getChar_3b067_6 : decode cJ2_getChar_3b067 6 = .ok (.iload_n 1, 1) := by decide +kernel
theorem dJ2_getChar_3b067_7 : decode cJ2_getChar_3b067 7 = .ok (.ifCond .lt 11, 3) := by decide +kernel
theorem dJ2_getChar_3b067_10 : decode cJ2_getChar_3b067 10 = .ok (.iload_n 1, 1) := by decide +kernel
theorem dJ2_getChar_3b067_11 : decode cJ2_getChar_3b067 11 = .ok (.aload_n 0, 1) := by decide +kernel
theorem dJ2_getChar_3b067_12 : decode cJ2_getChar_3b067 12 = .ok (.invokestatic 48, 3) := by decide +kernel
theorem dJ2_getChar_3b067_15 : decode cJ2_getChar_3b067 15 = .ok (.if_icmp .lt 13, 3) := by decide +kernel
theorem dJ2_getChar_3b067_18 : decode cJ2_getChar_3b067 18 = .ok (.new 52, 3) := by decide +kernel
theorem dJ2_getChar_3b067_21 : decode cJ2_getChar_3b067 21 = .ok (.dup, 1) := by decide +kernel
theorem dJ2_getChar_3b067_22 : decode cJ2_getChar_3b067 22 = .ok (.ldc 54, 2) := by decide +kernel
theorem dJ2_getChar_3b067_24 : decode cJ2_getChar_3b067 24 = .ok (.invokespecial 56, 3) := by decide +kernel
theorem dJ2_getChar_3b067_27 : decode cJ2_getChar_3b067 27 = .ok (.athrow, 1) := by decide +kernel
theorem dJ2_getChar_3b067_28 : decode cJ2_getChar_3b067 28 = .ok (.iload_n 1, 1) := by decide +kernel
theorem dJ2_getChar_3b067_29 : decode cJ2_getChar_3b067 29 = .ok (.iconst 1, 1) := by decide +kernel
theorem dJ2_getChar_3b067_30 : decode cJ2_getChar_3b067 30 = .ok (.ishl, 1) := by decide +kernel
theorem dJ2_getChar_3b067_31 : decode cJ2_getChar_3b067 31 = .ok (.istore_n 1, 1) := by decide +kernel
theorem dJ2_getChar_3b067_32 : decode cJ2_getChar_3b067 32 = .ok (.aload_n 0, 1) := by decide +kernel
theorem dJ2_getChar_3b067_33 : decode cJ2_getChar_3b067 33 = .ok (.iload_n 1, 1) := by decide +kernel
theorem dJ2_getChar_3b067_34 : decode cJ2_getChar_3b067 34 = .ok (.iinc 1 1, 3) := by decide +kernel
theorem dJ2_getChar_3b067_37 : decode cJ2_getChar_3b067 37 = .ok (.baload, 1) := by decide +kernel
theorem dJ2_getChar_3b067_38 : decode cJ2_getChar_3b067 38 = .ok (.sipush 255, 3) := by decide +kernel
theorem dJ2_getChar_3b067_41 : decode cJ2_getChar_3b067 41 = .ok (.iand, 1) := by decide +kernel
theorem dJ2_getChar_3b067_42 : decode cJ2_getChar_3b067 42 = .ok (.getstatic 59, 3) := by decide +kernel
theorem dJ2_getChar_3b067_45 : decode cJ2_getChar_3b067 45 = .ok (.ishl, 1) := by decide +kernel
theorem dJ2_getChar_3b067_46 : decode cJ2_getChar_3b067 46 = .ok (.aload_n 0, 1) := by decide +kernel
theorem dJ2_getChar_3b067_47 : decode cJ2_getChar_3b067 47 = .ok (.iload_n 1, 1) := by decide +kernel
theorem dJ2_getChar_3b067_48 : decode cJ2_getChar_3b067 48 = .ok (.baload, 1) := by decide +kernel
theorem dJ2_getChar_3b067_49 : decode cJ2_getChar_3b067 49 = .ok (.sipush 255, 3) := by decide +kernel
theorem dJ2_getChar_3b067_52 : decode cJ2_getChar_3b067 52 = .ok (.iand, 1) := by decide +kernel
theorem dJ2_getChar_3b067_53 : decode cJ2_getChar_3b067 53 = .ok (.getstatic 63, 3) := by decide +kernel
theorem dJ2_getChar_3b067_56 : decode cJ2_getChar_3b067 56 = .ok (.ishl, 1) := by decide +kernel
theorem dJ2_getChar_3b067_57 : decode cJ2_getChar_3b067 57 = .ok (.ior, 1) := by decide +kernel
theorem dJ2_getChar_3b067_58 : decode cJ2_getChar_3b067 58 = .ok (.i2c, 1) := by decide +kernel
theorem dJ2_getChar_3b067_59 : decode cJ2_getChar_3b067 59 = .ok (.ireturn, 1) := by decide +kernel
theorem dJ2_length_9d52b_0 : decode cJ2_length_9d52b 0 = .ok (.aload_n 0, 1) := by decide +kernel
theorem dJ2_length_9d52b_1 : decode cJ2_length_9d52b 1 = .ok (.arraylength, 1) := by decide +kernel
theorem dJ2_length_9d52b_2 : decode cJ2_length_9d52b 2 = .ok (.iconst 1, 1) := by decide +kernel
theorem dJ2_length_9d52b_3 : decode cJ2_length_9d52b 3 = .ok (.ishr, 1) := by decide +kernel
theorem dJ2_length_9d52b_4 : decode cJ2_length_9d52b 4 = .ok (.ireturn, 1) := by decide +kernel
theorem dJ2_charAt_3b067_0 : decode cJ2_charAt_3b067 0 = .ok (.iload_n 1, 1) := by decide +kernel
theorem dJ2_charAt_3b067_1 : decode cJ2_charAt_3b067 1 = .ok (.aload_n 0, 1) := by decide +kernel
theorem dJ2_charAt_3b067_2 : decode cJ2_charAt_3b067 2 = .ok (.invokestatic 67, 3) := by decide +kernel
theorem dJ2_charAt_3b067_5 : decode cJ2_charAt_3b067 5 = .ok (.aload_n 0, 1) := by decide +kernel
theorem dJ2_charAt_3b067_6 : decode cJ2_charAt_3b067 6 = .ok (.iload_n 1, 1) := by decide +kernel
theorem dJ2_charAt_3b067_7 : decode cJ2_charAt_3b067 7 = .ok (.invokestatic 71, 3) := by decide +kernel
theorem dJ2_charAt_3b067_10 : decode cJ2_charAt_3b067 10 = .ok (.ireturn, 1) := by decide +kernel
theorem dJ2_checkIndex_2214a_0 : decode cJ2_checkIndex_2214a 0 = .ok (.iload_n 0, 1) := by decide +kernel
theorem dJ2_checkIndex_2214a_1 : decode cJ2_checkIndex_2214a 1 = .ok (.aload_n 1, 1) := by decide +kernel
theorem dJ2_checkIndex_2214a_2 : decode cJ2_checkIndex_2214a 2 = .ok (.invokestatic 48, 3) := by decide +kernel
theorem dJ2_checkIndex_2214a_5 : decode cJ2_checkIndex_2214a 5 = .ok (.invokestatic 414, 3) := by decide +kernel
theorem dJ2_checkIndex_2214a_8 : decode cJ2_checkIndex_2214a 8 = .ok (.return_, 1) := by decide +kernel
theorem dJ7_fill_53178_0 : decode cJ7_fill_53178 0 = .ok (.iconst 0, 1) := by decide +kernel
theorem dJ7_fill_53178_1 : decode cJ7_fill_53178 1 = .ok (.istore_n 2, 1) := by decide +kernel
theorem dJ7_fill_53178_2 : decode cJ7_fill_53178 2 = .ok (.aload_n 0, 1) := by decide +kernel
theorem dJ7_fill_53178_3 : decode cJ7_fill_53178 3 = .ok (.arraylength, 1) := by decide +kernel
theorem dJ7_fill_53178_4 : decode cJ7_fill_53178 4 = .ok (.istore_n 3, 1) := by decide +kernel
theorem dJ7_fill_53178_5 : decode cJ7_fill_53178 5 = .ok (.iload_n 2, 1) := by decide +kernel
theorem dJ7_fill_53178_6 : decode cJ7_fill_53178 6 = .ok (.iload_n 3, 1) := by decide +kernel
theorem dJ7_fill_53178_7 : decode cJ7_fill_53178 7 = .ok (.if_icmp .ge 13, 3) := by decide +kernel
theorem dJ7_fill_53178_10 : decode cJ7_fill_53178 10 = .ok (.aload_n 0, 1) := by decide +kernel
theorem dJ7_fill_53178_11 : decode cJ7_fill_53178 11 = .ok (.iload_n 2, 1) := by decide +kernel
theorem dJ7_fill_53178_12 : decode cJ7_fill_53178 12 = .ok (.iload_n 1, 1) := by decide +kernel
theorem dJ7_fill_53178_13 : decode cJ7_fill_53178 13 = .ok (.iastore, 1) := by decide +kernel
theorem dJ7_fill_53178_14 : decode cJ7_fill_53178 14 = .ok (.iinc 2 1, 3) := by decide +kernel
theorem dJ7_fill_53178_17 : decode cJ7_fill_53178 17 = .ok (.goto (-12), 3) := by decide +kernel
theorem dJ7_fill_53178_20 : decode cJ7_fill_53178 20 = .ok (.return_, 1) := by decide +kernel
theorem dJ3_checkIndex_8e157_0 : decode cJ3_checkIndex_8e157 0 = .ok (.iload_n 0, 1) := by decide +kernel
theorem dJ3_checkIndex_8e157_1 : decode cJ3_checkIndex_8e157 1 = .ok (.ifCond .lt 8, 3) := by decide +kernel
theorem dJ3_checkIndex_8e157_4 : decode cJ3_checkIndex_8e157 4 = .ok (.iload_n 0, 1) := by decide +kernel
theorem dJ3_checkIndex_8e157_5 : decode cJ3_checkIndex_8e157 5 = .ok (.iload_n 1, 1) := by decide +kernel
theorem dJ3_checkIndex_8e157_6 : decode cJ3_checkIndex_8e157 6 = .ok (.if_icmp .lt 10, 3) := by decide +kernel
theorem dJ3_checkIndex_8e157_9 : decode cJ3_checkIndex_8e157 9 = .ok (.aload_n 2, 1) := by decide +kernel
theorem dJ3_checkIndex_8e157_10 : decode cJ3_checkIndex_8e157 10 = .ok (.iload_n 0, 1) := by decide +kernel
theorem dJ3_checkIndex_8e157_11 : decode cJ3_checkIndex_8e157 11 = .ok (.iload_n 1, 1) := by decide +kernel
theorem dJ3_checkIndex_8e157_12 : decode cJ3_checkIndex_8e157 12 = .ok (.invokestatic 95, 3) := by decide +kernel
theorem dJ3_checkIndex_8e157_15 : decode cJ3_checkIndex_8e157 15 = .ok (.athrow, 1) := by decide +kernel
theorem dJ3_checkIndex_8e157_16 : decode cJ3_checkIndex_8e157 16 = .ok (.iload_n 0, 1) := by decide +kernel
theorem dJ3_checkIndex_8e157_17 : decode cJ3_checkIndex_8e157 17 = .ok (.ireturn, 1) := by decide +kernel
