/-! decode rows -/
theorem dX4_toldBy_58 : decode cX4_toldBy 58 = .ok (.aload_n 2, 1) := by decide +kernel
theorem dX4_toldBy_59 : decode cX4_toldBy 59 = .ok (.getfield 95, 3) := by decide +kernel
theorem dX4_toldBy_62 : decode cX4_toldBy 62 = .ok (.iadd, 1) := by decide +kernel
theorem dX4_toldBy_63 : decode cX4_toldBy 63 = .ok (.bipush 97, 2) := by decide +kernel
theorem dX4_toldBy_65 : decode cX4_toldBy 65 = .ok (.irem, 1) := by decide +kernel
theorem dX4_toldBy_66 : decode cX4_toldBy 66 = .ok (.ireturn, 1) := by decide +kernel
theorem dX4_toldOfSet_0 : decode cX4_toldOfSet 0 = .ok (.aload_n 1, 1) := by decide +kernel
theorem dX4_toldOfSet_1 : decode cX4_toldOfSet 1 = .ok (.aload_n 0, 1) := by decide +kernel
theorem dX4_toldOfSet_2 : decode cX4_toldOfSet 2 = .ok (.getfield 9, 3) := by decide +kernel
theorem dX4_toldOfSet_5 : decode cX4_toldOfSet 5 = .ok (.invokevirtual 193, 3) := by decide +kernel
theorem dX4_toldOfSet_8 : decode cX4_toldOfSet 8 = .ok (.astore_n 3, 1) := by decide +kernel
theorem dX4_toldOfSet_9 : decode cX4_toldOfSet 9 = .ok (.iconst 0, 1) := by decide +kernel
theorem dX4_toldOfSet_10 : decode cX4_toldOfSet 10 = .ok (.istore 4, 2) := by decide +kernel
theorem dX4_toldOfSet_12 : decode cX4_toldOfSet 12 = .ok (.iconst 0, 1) := by decide +kernel
theorem dX4_toldOfSet_13 : decode cX4_toldOfSet 13 = .ok (.istore 5, 2) := by decide +kernel
theorem dX4_toldOfSet_15 : decode cX4_toldOfSet 15 = .ok (.iload 5, 2) := by decide +kernel
theorem dX4_toldOfSet_17 : decode cX4_toldOfSet 17 = .ok (.aload_n 0, 1) := by decide +kernel
theorem dX4_toldOfSet_18 : decode cX4_toldOfSet 18 = .ok (.invokevirtual 60, 3) := by decide +kernel
theorem dX4_toldOfSet_21 : decode cX4_toldOfSet 21 = .ok (.if_icmp .ge 28, 3) := by decide +kernel
theorem dX4_toldOfSet_24 : decode cX4_toldOfSet 24 = .ok (.iload_n 2, 1) := by decide +kernel
theorem dX4_toldOfSet_25 : decode cX4_toldOfSet 25 = .ok (.iload 5, 2) := by decide +kernel
theorem dX4_toldOfSet_27 : decode cX4_toldOfSet 27 = .ok (.invokestatic 156, 3) := by decide +kernel
theorem dX4_toldOfSet_30 : decode cX4_toldOfSet 30 = .ok (.iconst 1, 1) := by decide +kernel
theorem dX4_toldOfSet_31 : decode cX4_toldOfSet 31 = .ok (.if_icmp .ne 12, 3) := by decide +kernel
theorem dX4_toldOfSet_34 : decode cX4_toldOfSet 34 = .ok (.iload 4, 2) := by decide +kernel
theorem dX4_toldOfSet_36 : decode cX4_toldOfSet 36 = .ok (.aload_n 3, 1) := by decide +kernel
theorem dX4_toldOfSet_37 : decode cX4_toldOfSet 37 = .ok (.iload 5, 2) := by decide +kernel
theorem dX4_toldOfSet_39 : decode cX4_toldOfSet 39 = .ok (.iaload, 1) := by decide +kernel
theorem dX4_toldOfSet_40 : decode cX4_toldOfSet 40 = .ok (.ixor, 1) := by decide +kernel
theorem dX4_toldOfSet_41 : decode cX4_toldOfSet 41 = .ok (.istore 4, 2) := by decide +kernel
theorem dX4_toldOfSet_43 : decode cX4_toldOfSet 43 = .ok (.iinc 5 1, 3) := by decide +kernel
theorem dX4_toldOfSet_46 : decode cX4_toldOfSet 46 = .ok (.goto (-31), 3) := by decide +kernel
theorem dX4_toldOfSet_49 : decode cX4_toldOfSet 49 = .ok (.iload 4, 2) := by decide +kernel
theorem dX4_toldOfSet_51 : decode cX4_toldOfSet 51 = .ok (.aload_n 1, 1) := by decide +kernel
theorem dX4_toldOfSet_52 : decode cX4_toldOfSet 52 = .ok (.getfield 95, 3) := by decide +kernel
theorem dX4_toldOfSet_55 : decode cX4_toldOfSet 55 = .ok (.iadd, 1) := by decide +kernel
theorem dX4_toldOfSet_56 : decode cX4_toldOfSet 56 = .ok (.sipush 128, 3) := by decide +kernel
theorem dX4_toldOfSet_59 : decode cX4_toldOfSet 59 = .ok (.irem, 1) := by decide +kernel
theorem dX4_toldOfSet_60 : decode cX4_toldOfSet 60 = .ok (.ireturn, 1) := by decide +kernel
theorem dX4_sumAtPlace_0 : decode cX4_sumAtPlace 0 = .ok (.iconst 0, 1) := by decide +kernel
theorem dX4_sumAtPlace_1 : decode cX4_sumAtPlace 1 = .ok (.istore_n 2, 1) := by decide +kernel
theorem dX4_sumAtPlace_2 : decode cX4_sumAtPlace 2 = .ok (.iconst 0, 1) := by decide +kernel
theorem dX4_sumAtPlace_3 : decode cX4_sumAtPlace 3 = .ok (.istore_n 3, 1) := by decide +kernel
theorem dX4_sumAtPlace_4 : decode cX4_sumAtPlace 4 = .ok (.iload_n 3, 1) := by decide +kernel
theorem dX4_sumAtPlace_5 : decode cX4_sumAtPlace 5 = .ok (.aload_n 0, 1) := by decide +kernel
theorem dX4_sumAtPlace_6 : decode cX4_sumAtPlace 6 = .ok (.invokevirtual 60, 3) := by decide +kernel
theorem dX4_sumAtPlace_9 : decode cX4_sumAtPlace 9 = .ok (.if_icmp .ge 79, 3) := by decide +kernel
theorem dX4_sumAtPlace_12 : decode cX4_sumAtPlace 12 = .ok (.aload_n 1, 1) := by decide +kernel
theorem dX4_sumAtPlace_13 : decode cX4_sumAtPlace 13 = .ok (.iload_n 3, 1) := by decide +kernel
theorem dX4_sumAtPlace_14 : decode cX4_sumAtPlace 14 = .ok (.iaload, 1) := by decide +kernel
theorem dX4_sumAtPlace_15 : decode cX4_sumAtPlace 15 = .ok (.istore 4, 2) := by decide +kernel
theorem dX4_sumAtPlace_17 : decode cX4_sumAtPlace 17 = .ok (.iconst 0, 1) := by decide +kernel
theorem dX4_sumAtPlace_18 : decode cX4_sumAtPlace 18 = .ok (.istore 5, 2) := by decide +kernel
theorem dX4_sumAtPlace_20 : decode cX4_sumAtPlace 20 = .ok (.iload 5, 2) := by decide +kernel
theorem dX4_sumAtPlace_22 : decode cX4_sumAtPlace 22 = .ok (.aload_n 0, 1) := by decide +kernel
theorem dX4_sumAtPlace_23 : decode cX4_sumAtPlace 23 = .ok (.getfield 43, 3) := by decide +kernel
theorem dX4_sumAtPlace_26 : decode cX4_sumAtPlace 26 = .ok (.if_icmp .ge 51, 3) := by decide +kernel
theorem dX4_sumAtPlace_29 : decode cX4_sumAtPlace 29 = .ok (.iload_n 3, 1) := by decide +kernel
theorem dX4_sumAtPlace_30 : decode cX4_sumAtPlace 30 = .ok (.iload 5, 2) := by decide +kernel
theorem dX4_sumAtPlace_32 : decode cX4_sumAtPlace 32 = .ok (.invokestatic 156, 3) := by decide +kernel
theorem dX4_sumAtPlace_35 : decode cX4_sumAtPlace 35 = .ok (.iconst 1, 1) := by decide +kernel
theorem dX4_sumAtPlace_36 : decode cX4_sumAtPlace 36 = .ok (.if_icmp .ne 13, 3) := by decide +kernel
theorem dX4_sumAtPlace_39 : decode cX4_sumAtPlace 39 = .ok (.aload_n 0, 1) := by decide +kernel
theorem dX4_sumAtPlace_40 : decode cX4_sumAtPlace 40 = .ok (.getfield 13, 3) := by decide +kernel
theorem dX4_sumAtPlace_43 : decode cX4_sumAtPlace 43 = .ok (.iload 5, 2) := by decide +kernel
theorem dX4_sumAtPlace_45 : decode cX4_sumAtPlace 45 = .ok (.iaload, 1) := by decide +kernel
theorem dX4_sumAtPlace_46 : decode cX4_sumAtPlace 46 = .ok (.goto 13, 3) := by decide +kernel
theorem dX4_sumAtPlace_49 : decode cX4_sumAtPlace 49 = .ok (.bipush 98, 2) := by decide +kernel
theorem dX4_sumAtPlace_51 : decode cX4_sumAtPlace 51 = .ok (.aload_n 0, 1) := by decide +kernel
theorem dX4_sumAtPlace_52 : decode cX4_sumAtPlace 52 = .ok (.getfield 13, 3) := by decide +kernel
theorem dX4_sumAtPlace_55 : decode cX4_sumAtPlace 55 = .ok (.iload 5, 2) := by decide +kernel
theorem dX4_sumAtPlace_57 : decode cX4_sumAtPlace 57 = .ok (.iaload, 1) := by decide +kernel
theorem dX4_sumAtPlace_58 : decode cX4_sumAtPlace 58 = .ok (.isub, 1) := by decide +kernel
theorem dX4_sumAtPlace_59 : decode cX4_sumAtPlace 59 = .ok (.istore 6, 2) := by decide +kernel
theorem dX4_sumAtPlace_61 : decode cX4_sumAtPlace 61 = .ok (.iload 4, 2) := by decide +kernel
theorem dX4_sumAtPlace_63 : decode cX4_sumAtPlace 63 = .ok (.iload 6, 2) := by decide +kernel
theorem dX4_sumAtPlace_65 : decode cX4_sumAtPlace 65 = .ok (.imul, 1) := by decide +kernel
theorem dX4_sumAtPlace_66 : decode cX4_sumAtPlace 66 = .ok (.bipush 97, 2) := by decide +kernel
theorem dX4_sumAtPlace_68 : decode cX4_sumAtPlace 68 = .ok (.irem, 1) := by decide +kernel
theorem dX4_sumAtPlace_69 : decode cX4_sumAtPlace 69 = .ok (.istore 4, 2) := by decide +kernel
theorem dX4_sumAtPlace_71 : decode cX4_sumAtPlace 71 = .ok (.iinc 5 1, 3) := by decide +kernel
theorem dX4_sumAtPlace_74 : decode cX4_sumAtPlace 74 = .ok (.goto (-54), 3) := by decide +kernel
theorem dX4_sumAtPlace_77 : decode cX4_sumAtPlace 77 = .ok (.iload_n 2, 1) := by decide +kernel
theorem dX4_sumAtPlace_78 : decode cX4_sumAtPlace 78 = .ok (.iload 4, 2) := by decide +kernel
theorem dX4_sumAtPlace_80 : decode cX4_sumAtPlace 80 = .ok (.iadd, 1) := by decide +kernel
theorem dX4_sumAtPlace_81 : decode cX4_sumAtPlace 81 = .ok (.istore_n 2, 1) := by decide +kernel
theorem dX4_sumAtPlace_82 : decode cX4_sumAtPlace 82 = .ok (.iinc 3 1, 3) := by decide +kernel
theorem dX4_sumAtPlace_85 : decode cX4_sumAtPlace 85 = .ok (.goto (-81), 3) := by decide +kernel
theorem dX4_sumAtPlace_88 : decode cX4_sumAtPlace 88 = .ok (.iload_n 2, 1) := by decide +kernel
theorem dX4_sumAtPlace_89 : decode cX4_sumAtPlace 89 = .ok (.bipush 97, 2) := by decide +kernel
theorem dX4_sumAtPlace_91 : decode cX4_sumAtPlace 91 = .ok (.irem, 1) := by decide +kernel
theorem dX4_sumAtPlace_92 : decode cX4_sumAtPlace 92 = .ok (.ireturn, 1) := by decide +kernel
theorem dX4_bit_0 : decode cX4_bit 0 = .ok (.iload_n 0, 1) := by decide +kernel
theorem dX4_bit_1 : decode cX4_bit 1 = .ok (.iload_n 1, 1) := by decide +kernel
theorem dX4_bit_2 : decode cX4_bit 2 = .ok (.ishr, 1) := by decide +kernel
theorem dX4_bit_3 : decode cX4_bit 3 = .ok (.iconst 1, 1) := by decide +kernel
theorem dX4_bit_4 : decode cX4_bit 4 = .ok (.iand, 1) := by decide +kernel
theorem dX4_bit_5 : decode cX4_bit 5 = .ok (.ireturn, 1) := by decide +kernel
theorem dX4_inverse_0 : decode cX4_inverse 0 = .ok (.iload_n 0, 1) := by decide +kernel
theorem dX4_inverse_1 : decode cX4_inverse 1 = .ok (.ifCond .le 19, 3) := by decide +kernel
theorem dX4_inverse_4 : decode cX4_inverse 4 = .ok (.iload_n 0, 1) := by decide +kernel
theorem dX4_inverse_5 : decode cX4_inverse 5 = .ok (.getstatic 200, 3) := by decide +kernel
theorem dX4_inverse_8 : decode cX4_inverse 8 = .ok (.arraylength, 1) := by decide +kernel
theorem dX4_inverse_9 : decode cX4_inverse 9 = .ok (.if_icmp .ge 11, 3) := by decide +kernel
theorem dX4_inverse_12 : decode cX4_inverse 12 = .ok (.getstatic 200, 3) := by decide +kernel
theorem dX4_inverse_15 : decode cX4_inverse 15 = .ok (.iload_n 0, 1) := by decide +kernel
theorem dX4_inverse_16 : decode cX4_inverse 16 = .ok (.iaload, 1) := by decide +kernel
theorem dX4_inverse_17 : decode cX4_inverse 17 = .ok (.goto 4, 3) := by decide +kernel
theorem dX4_inverse_20 : decode cX4_inverse 20 = .ok (.iconst 0, 1) := by decide +kernel
theorem dX4_inverse_21 : decode cX4_inverse 21 = .ok (.ireturn, 1) := by decide +kernel
theorem dX4_hearStores_0 : decode cX4_hearStores 0 = .ok (.aload_n 0, 1) := by decide +kernel
theorem dX4_hearStores_1 : decode cX4_hearStores 1 = .ok (.getfield 32, 3) := by decide +kernel
theorem dX4_hearStores_4 : decode cX4_hearStores 4 = .ok (.iconst 0, 1) := by decide +kernel
theorem dX4_hearStores_5 : decode cX4_hearStores 5 = .ok (.putfield 140, 3) := by decide +kernel
theorem dX4_hearStores_8 : decode cX4_hearStores 8 = .ok (.iconst 1, 1) := by decide +kernel
theorem dX4_hearStores_9 : decode cX4_hearStores 9 = .ok (.istore_n 2, 1) := by decide +kernel
theorem dX4_hearStores_10 : decode cX4_hearStores 10 = .ok (.iload_n 2, 1) := by decide +kernel
theorem dX4_hearStores_11 : decode cX4_hearStores 11 = .ok (.iload_n 1, 1) := by decide +kernel
theorem dX4_hearStores_12 : decode cX4_hearStores 12 = .ok (.if_icmp .gt 34, 3) := by decide +kernel
theorem dX4_hearStores_15 : decode cX4_hearStores 15 = .ok (.aload_n 0, 1) := by decide +kernel
theorem dX4_hearStores_16 : decode cX4_hearStores 16 = .ok (.iload_n 2, 1) := by decide +kernel
theorem dX4_hearStores_17 : decode cX4_hearStores 17 = .ok (.invokevirtual 64, 3) := by decide +kernel
theorem dX4_hearStores_20 : decode cX4_hearStores 20 = .ok (.getfield 92, 3) := by decide +kernel
theorem dX4_hearStores_23 : decode cX4_hearStores 23 = .ok (.iconst 3, 1) := by decide +kernel
theorem dX4_hearStores_24 : decode cX4_hearStores 24 = .ok (.if_icmp .eq 16, 3) := by decide +kernel
theorem dX4_hearStores_27 : decode cX4_hearStores 27 = .ok (.aload_n 0, 1) := by decide +kernel
theorem dX4_hearStores_28 : decode cX4_hearStores 28 = .ok (.getfield 32, 3) := by decide +kernel
theorem dX4_hearStores_31 : decode cX4_hearStores 31 = .ok (.iload_n 2, 1) := by decide +kernel
theorem dX4_hearStores_32 : decode cX4_hearStores 32 = .ok (.aload_n 0, 1) := by decide +kernel
theorem dX4_hearStores_33 : decode cX4_hearStores 33 = .ok (.iload_n 2, 1) := by decide +kernel
theorem dX4_hearStores_34 : decode cX4_hearStores 34 = .ok (.invokevirtual 130, 3) := by decide +kernel
theorem dX4_hearStores_37 : decode cX4_hearStores 37 = .ok (.invokevirtual 203, 3) := by decide +kernel
theorem dX4_hearStores_40 : decode cX4_hearStores 40 = .ok (.iinc 2 1, 3) := by decide +kernel
theorem dX4_hearStores_43 : decode cX4_hearStores 43 = .ok (.goto (-33), 3) := by decide +kernel
theorem dX4_hearStores_46 : decode cX4_hearStores 46 = .ok (.return_, 1) := by decide +kernel
theorem dX4_liesMended_0 : decode cX4_liesMended 0 = .ok (.iload_n 1, 1) := by decide +kernel
theorem dX4_liesMended_1 : decode cX4_liesMended 1 = .ok (.aload_n 0, 1) := by decide +kernel
theorem dX4_liesMended_2 : decode cX4_liesMended 2 = .ok (.getfield 25, 3) := by decide +kernel
theorem dX4_liesMended_5 : decode cX4_liesMended 5 = .ok (.getfield 116, 3) := by decide +kernel
theorem dX4_liesMended_8 : decode cX4_liesMended 8 = .ok (.isub, 1) := by decide +kernel
theorem dX4_liesMended_9 : decode cX4_liesMended 9 = .ok (.iconst 1, 1) := by decide +kernel
theorem dX4_liesMended_10 : decode cX4_liesMended 10 = .ok (.isub, 1) := by decide +kernel
theorem dX4_liesMended_11 : decode cX4_liesMended 11 = .ok (.iconst 2, 1) := by decide +kernel
theorem dX4_liesMended_12 : decode cX4_liesMended 12 = .ok (.idiv, 1) := by decide +kernel
theorem dX4_liesMended_13 : decode cX4_liesMended 13 = .ok (.ireturn, 1) := by decide +kernel
theorem dX4_findCurve_0 : decode cX4_findCurve 0 = .ok (.iconst 1, 1) := by decide +kernel
theorem dX4_findCurve_1 : decode cX4_findCurve 1 = .ok (.aload_n 0, 1) := by decide +kernel
theorem dX4_findCurve_2 : decode cX4_findCurve 2 = .ok (.getfield 32, 3) := by decide +kernel
theorem dX4_findCurve_5 : decode cX4_findCurve 5 = .ok (.getfield 140, 3) := by decide +kernel
theorem dX4_findCurve_8 : decode cX4_findCurve 8 = .ok (.ishl, 1) := by decide +kernel
theorem dX4_findCurve_9 : decode cX4_findCurve 9 = .ok (.iconst 1, 1) := by decide +kernel
theorem dX4_findCurve_10 : decode cX4_findCurve 10 = .ok (.isub, 1) := by decide +kernel
theorem dX4_findCurve_11 : decode cX4_findCurve 11 = .ok (.istore_n 2, 1) := by decide +kernel
theorem dX4_findCurve_12 : decode cX4_findCurve 12 = .ok (.iload_n 2, 1) := by decide +kernel
theorem dX4_findCurve_13 : decode cX4_findCurve 13 = .ok (.ifCond .le 54, 3) := by decide +kernel
theorem dX4_findCurve_16 : decode cX4_findCurve 16 = .ok (.iload_n 2, 1) := by decide +kernel
theorem dX4_findCurve_17 : decode cX4_findCurve 17 = .ok (.invokestatic 207, 3) := by decide +kernel
theorem dX4_findCurve_20 : decode cX4_findCurve 20 = .ok (.aload_n 0, 1) := by decide +kernel
theorem dX4_findCurve_21 : decode cX4_findCurve 21 = .ok (.getfield 25, 3) := by decide +kernel
theorem dX4_findCurve_24 : decode cX4_findCurve 24 = .ok (.getfield 116, 3) := by decide +kernel
theorem dX4_findCurve_27 : decode cX4_findCurve 27 = .ok (.iconst 1, 1) := by decide +kernel
theorem dX4_findCurve_28 : decode cX4_findCurve 28 = .ok (.iadd, 1) := by decide +kernel
theorem dX4_findCurve_29 : decode cX4_findCurve 29 = .ok (.if_icmp .ne 32, 3) := by decide +kernel
theorem dX4_findCurve_32 : decode cX4_findCurve 32 = .ok (.aload_n 0, 1) := by decide +kernel
theorem dX4_findCurve_33 : decode cX4_findCurve 33 = .ok (.getfield 39, 3) := by decide +kernel
theorem dX4_findCurve_36 : decode cX4_findCurve 36 = .ok (.aload_n 0, 1) := by decide +kernel
theorem dX4_findCurve_37 : decode cX4_findCurve 37 = .ok (.getfield 32, 3) := by decide +kernel
theorem dX4_findCurve_40 : decode cX4_findCurve 40 = .ok (.iload_n 2, 1) := by decide +kernel
theorem dX4_findCurve_41 : decode cX4_findCurve 41 = .ok (.invokevirtual 177, 3) := by decide +kernel
theorem dX4_findCurve_44 : decode cX4_findCurve 44 = .ok (.aload_n 0, 1) := by decide +kernel
theorem dX4_findCurve_45 : decode cX4_findCurve 45 = .ok (.getfield 32, 3) := by decide +kernel
theorem dX4_findCurve_48 : decode cX4_findCurve 48 = .ok (.aload_n 0, 1) := by decide +kernel
theorem dX4_findCurve_49 : decode cX4_findCurve 49 = .ok (.getfield 39, 3) := by decide +kernel
theorem dX4_findCurve_52 : decode cX4_findCurve 52 = .ok (.invokevirtual 181, 3) := by decide +kernel
theorem dX4_findCurve_55 : decode cX4_findCurve 55 = .ok (.iload_n 1, 1) := by decide +kernel
theorem dX4_findCurve_56 : decode cX4_findCurve 56 = .ok (.if_icmp .lt 5, 3) := by decide +kernel
theorem dX4_findCurve_59 : decode cX4_findCurve 59 = .ok (.iconst 1, 1) := by decide +kernel
theorem dX4_findCurve_60 : decode cX4_findCurve 60 = .ok (.ireturn, 1) := by decide +kernel
theorem dX4_findCurve_61 : decode cX4_findCurve 61 = .ok (.iinc 2 (-1), 3) := by decide +kernel
theorem dX4_findCurve_64 : decode cX4_findCurve 64 = .ok (.goto (-52), 3) := by decide +kernel
theorem dX4_findCurve_67 : decode cX4_findCurve 67 = .ok (.iconst 0, 1) := by decide +kernel
theorem dX4_findCurve_68 : decode cX4_findCurve 68 = .ok (.ireturn, 1) := by decide +kernel
theorem dX4_firstPicks_0 : decode cX4_firstPicks 0 = .ok (.aload_n 0, 1) := by decide +kernel
theorem dX4_firstPicks_1 : decode cX4_firstPicks 1 = .ok (.getfield 25, 3) := by decide +kernel
theorem dX4_firstPicks_4 : decode cX4_firstPicks 4 = .ok (.getfield 116, 3) := by decide +kernel
theorem dX4_firstPicks_7 : decode cX4_firstPicks 7 = .ok (.iconst 1, 1) := by decide +kernel
theorem dX4_firstPicks_8 : decode cX4_firstPicks 8 = .ok (.iadd, 1) := by decide +kernel
theorem dX4_firstPicks_9 : decode cX4_firstPicks 9 = .ok (.istore_n 1, 1) := by decide +kernel
theorem dX4_firstPicks_10 : decode cX4_firstPicks 10 = .ok (.iconst 1, 1) := by decide +kernel
theorem dX4_firstPicks_11 : decode cX4_firstPicks 11 = .ok (.iload_n 1, 1) := by decide +kernel
theorem dX4_firstPicks_12 : decode cX4_firstPicks 12 = .ok (.ishl, 1) := by decide +kernel
theorem dX4_firstPicks_13 : decode cX4_firstPicks 13 = .ok (.iconst 1, 1) := by decide +kernel
theorem dX4_firstPicks_14 : decode cX4_firstPicks 14 = .ok (.isub, 1) := by decide +kernel
theorem dX4_firstPicks_15 : decode cX4_firstPicks 15 = .ok (.aload_n 0, 1) := by decide +kernel
theorem dX4_firstPicks_16 : decode cX4_firstPicks 16 = .ok (.getfield 32, 3) := by decide +kernel
theorem dX4_firstPicks_19 : decode cX4_firstPicks 19 = .ok (.getfield 140, 3) := by decide +kernel
theorem dX4_firstPicks_22 : decode cX4_firstPicks 22 = .ok (.iload_n 1, 1) := by decide +kernel
theorem dX4_firstPicks_23 : decode cX4_firstPicks 23 = .ok (.isub, 1) := by decide +kernel
theorem dX4_firstPicks_24 : decode cX4_firstPicks 24 = .ok (.ishl, 1) := by decide +kernel
theorem dX4_firstPicks_25 : decode cX4_firstPicks 25 = .ok (.ireturn, 1) := by decide +kernel
theorem dX4_tellsRecordsApart_0 : decode cX4_tellsRecordsApart 0 = .ok (.iconst 1, 1) := by decide +kernel
theorem dX4_tellsRecordsApart_1 : decode cX4_tellsRecordsApart 1 = .ok (.istore_n 2, 1) := by decide +kernel
theorem dX4_tellsRecordsApart_2 : decode cX4_tellsRecordsApart 2 = .ok (.iload_n 2, 1) := by decide +kernel
theorem dX4_tellsRecordsApart_3 : decode cX4_tellsRecordsApart 3 = .ok (.aload_n 0, 1) := by decide +kernel
theorem dX4_tellsRecordsApart_4 : decode cX4_tellsRecordsApart 4 = .ok (.invokevirtual 60, 3) := by decide +kernel
theorem dX4_tellsRecordsApart_7 : decode cX4_tellsRecordsApart 7 = .ok (.if_icmp .ge 33, 3) := by decide +kernel
theorem dX4_tellsRecordsApart_10 : decode cX4_tellsRecordsApart 10 = .ok (.aload_n 0, 1) := by decide +kernel
theorem dX4_tellsRecordsApart_11 : decode cX4_tellsRecordsApart 11 = .ok (.getfield 25, 3) := by decide +kernel
theorem dX4_tellsRecordsApart_14 : decode cX4_tellsRecordsApart 14 = .ok (.iload_n 1, 1) := by decide +kernel
theorem dX4_tellsRecordsApart_15 : decode cX4_tellsRecordsApart 15 = .ok (.iload_n 2, 1) := by decide +kernel
theorem dX4_tellsRecordsApart_16 : decode cX4_tellsRecordsApart 16 = .ok (.invokevirtual 165, 3) := by decide +kernel
theorem dX4_tellsRecordsApart_19 : decode cX4_tellsRecordsApart 19 = .ok (.aload_n 0, 1) := by decide +kernel
theorem dX4_tellsRecordsApart_20 : decode cX4_tellsRecordsApart 20 = .ok (.getfield 25, 3) := by decide +kernel
theorem dX4_tellsRecordsApart_23 : decode cX4_tellsRecordsApart 23 = .ok (.iload_n 1, 1) := by decide +kernel
theorem dX4_tellsRecordsApart_24 : decode cX4_tellsRecordsApart 24 = .ok (.iconst 0, 1) := by decide +kernel
theorem dX4_tellsRecordsApart_25 : decode cX4_tellsRecordsApart 25 = .ok (.invokevirtual 165, 3) := by decide +kernel
theorem dX4_tellsRecordsApart_28 : decode cX4_tellsRecordsApart 28 = .ok (.lcmp, 1) := by decide +kernel
theorem dX4_tellsRecordsApart_29 : decode cX4_tellsRecordsApart 29 = .ok (.ifCond .eq 5, 3) := by decide +kernel
theorem dX4_tellsRecordsApart_32 : decode cX4_tellsRecordsApart 32 = .ok (.iconst 1, 1) := by decide +kernel
theorem dX4_tellsRecordsApart_33 : decode cX4_tellsRecordsApart 33 = .ok (.ireturn, 1) := by decide +kernel
theorem dX4_tellsRecordsApart_34 : decode cX4_tellsRecordsApart 34 = .ok (.iinc 2 1, 3) := by decide +kernel
theorem dX4_tellsRecordsApart_37 : decode cX4_tellsRecordsApart 37 = .ok (.goto (-35), 3) := by decide +kernel
theorem dX4_tellsRecordsApart_40 : decode cX4_tellsRecordsApart 40 = .ok (.iconst 0, 1) := by decide +kernel
theorem dX4_tellsRecordsApart_41 : decode cX4_tellsRecordsApart 41 = .ok (.ireturn, 1) := by decide +kernel
theorem dX5_init_0 : decode cX5_init 0 = .ok (.aload_n 0, 1) := by decide +kernel
theorem dX5_init_1 : decode cX5_init 1 = .ok (.invokespecial 1, 3) := by decide +kernel
theorem dX5_init_4 : decode cX5_init 4 = .ok (.aload_n 0, 1) := by decide +kernel
theorem dX5_init_5 : decode cX5_init 5 = .ok (.iconst 1, 1) := by decide +kernel
theorem dX5_init_6 : decode cX5_init 6 = .ok (.putfield 7, 3) := by decide +kernel
theorem dX5_init_9 : decode cX5_init 9 = .ok (.aload_n 0, 1) := by decide +kernel
theorem dX5_init_10 : decode cX5_init 10 = .ok (.bipush 8, 2) := by decide +kernel
theorem dX5_init_12 : decode cX5_init 12 = .ok (.newarray .int, 2) := by decide +kernel
theorem dX5_init_14 : decode cX5_init 14 = .ok (.putfield 13, 3) := by decide +kernel
theorem dX5_init_17 : decode cX5_init 17 = .ok (.aload_n 0, 1) := by decide +kernel
theorem dX5_init_18 : decode cX5_init 18 = .ok (.bipush 10, 2) := by decide +kernel
theorem dX5_init_20 : decode cX5_init 20 = .ok (.newarray .int, 2) := by decide +kernel
theorem dX5_init_22 : decode cX5_init 22 = .ok (.putfield 17, 3) := by decide +kernel
theorem dX5_init_25 : decode cX5_init 25 = .ok (.aload_n 0, 1) := by decide +kernel
theorem dX5_init_26 : decode cX5_init 26 = .ok (.bipush 10, 2) := by decide +kernel
theorem dX5_init_28 : decode cX5_init 28 = .ok (.newarray .int, 2) := by decide +kernel
theorem dX5_init_30 : decode cX5_init 30 = .ok (.putfield 20, 3) := by decide +kernel
theorem dX5_init_33 : decode cX5_init 33 = .ok (.aload_n 0, 1) := by decide +kernel
theorem dX5_init_34 : decode cX5_init 34 = .ok (.bipush 80, 2) := by decide +kernel
theorem dX5_init_36 : decode cX5_init 36 = .ok (.newarray .int, 2) := by decide +kernel
theorem dX5_init_38 : decode cX5_init 38 = .ok (.putfield 23, 3) := by decide +kernel
theorem dX5_init_41 : decode cX5_init 41 = .ok (.aload_n 0, 1) := by decide +kernel
theorem dX5_init_42 : decode cX5_init 42 = .ok (.bipush 6, 2) := by decide +kernel
theorem dX5_init_44 : decode cX5_init 44 = .ok (.newarray .int, 2) := by decide +kernel
theorem dX5_init_46 : decode cX5_init 46 = .ok (.putfield 26, 3) := by decide +kernel
theorem dX5_init_49 : decode cX5_init 49 = .ok (.aload_n 0, 1) := by decide +kernel
theorem dX5_init_50 : decode cX5_init 50 = .ok (.bipush 7, 2) := by decide +kernel
theorem dX5_init_52 : decode cX5_init 52 = .ok (.newarray .int, 2) := by decide +kernel
theorem dX5_init_54 : decode cX5_init 54 = .ok (.putfield 29, 3) := by decide +kernel
theorem dX5_init_57 : decode cX5_init 57 = .ok (.aload_n 0, 1) := by decide +kernel
theorem dX5_init_58 : decode cX5_init 58 = .ok (.bipush 10, 2) := by decide +kernel
theorem dX5_init_60 : decode cX5_init 60 = .ok (.newarray .boolean, 2) := by decide +kernel
theorem dX5_init_62 : decode cX5_init 62 = .ok (.putfield 32, 3) := by decide +kernel
theorem dX5_init_65 : decode cX5_init 65 = .ok (.aload_n 0, 1) := by decide +kernel
theorem dX5_init_66 : decode cX5_init 66 = .ok (.bipush 9, 2) := by decide +kernel
theorem dX5_init_68 : decode cX5_init 68 = .ok (.newarray .int, 2) := by decide +kernel
theorem dX5_init_70 : decode cX5_init 70 = .ok (.putfield 36, 3) := by decide +kernel
theorem dX5_init_73 : decode cX5_init 73 = .ok (.aload_n 0, 1) := by decide +kernel
theorem dX5_init_74 : decode cX5_init 74 = .ok (.bipush 9, 2) := by decide +kernel
theorem dX5_init_76 : decode cX5_init 76 = .ok (.newarray .int, 2) := by decide +kernel
theorem dX5_init_78 : decode cX5_init 78 = .ok (.putfield 39, 3) := by decide +kernel
theorem dX5_init_81 : decode cX5_init 81 = .ok (.aload_n 0, 1) := by decide +kernel
theorem dX5_init_82 : decode cX5_init 82 = .ok (.bipush 7, 2) := by decide +kernel
theorem dX5_init_84 : decode cX5_init 84 = .ok (.newarray .int, 2) := by decide +kernel
theorem dX5_init_86 : decode cX5_init 86 = .ok (.putfield 42, 3) := by decide +kernel
theorem dX5_init_89 : decode cX5_init 89 = .ok (.return_, 1) := by decide +kernel
theorem dX5_in_0 : decode cX5_in 0 = .ok (.lload_n 0, 1) := by decide +kernel
theorem dX5_in_1 : decode cX5_in 1 = .ok (.lload_n 2, 1) := by decide +kernel
theorem dX5_in_2 : decode cX5_in 2 = .ok (.lcmp, 1) := by decide +kernel
theorem dX5_in_3 : decode cX5_in 3 = .ok (.ifCond .lt 14, 3) := by decide +kernel
theorem dX5_in_6 : decode cX5_in 6 = .ok (.lload_n 0, 1) := by decide +kernel
theorem dX5_in_7 : decode cX5_in 7 = .ok (.lload 4, 2) := by decide +kernel
theorem dX5_in_9 : decode cX5_in 9 = .ok (.lcmp, 1) := by decide +kernel
theorem dX5_in_10 : decode cX5_in 10 = .ok (.ifCond .gt 7, 3) := by decide +kernel
theorem dX5_in_13 : decode cX5_in 13 = .ok (.iconst 1, 1) := by decide +kernel
theorem dX5_in_14 : decode cX5_in 14 = .ok (.goto 4, 3) := by decide +kernel
theorem dX5_in_17 : decode cX5_in 17 = .ok (.iconst 0, 1) := by decide +kernel
theorem dX5_in_18 : decode cX5_in 18 = .ok (.ireturn, 1) := by decide +kernel
theorem dX5_mod_0 : decode cX5_mod 0 = .ok (.iload_n 0, 1) := by decide +kernel
theorem dX5_mod_1 : decode cX5_mod 1 = .ok (.bipush 97, 2) := by decide +kernel
theorem dX5_mod_3 : decode cX5_mod 3 = .ok (.irem, 1) := by decide +kernel
theorem dX5_mod_4 : decode cX5_mod 4 = .ok (.istore_n 1, 1) := by decide +kernel
theorem dX5_mod_5 : decode cX5_mod 5 = .ok (.iload_n 1, 1) := by decide +kernel
theorem dX5_mod_6 : decode cX5_mod 6 = .ok (.ifCond .ge 10, 3) := by decide +kernel
theorem dX5_mod_9 : decode cX5_mod 9 = .ok (.iload_n 1, 1) := by decide +kernel
theorem dX5_mod_10 : decode cX5_mod 10 = .ok (.bipush 97, 2) := by decide +kernel
theorem dX5_mod_12 : decode cX5_mod 12 = .ok (.iadd, 1) := by decide +kernel
theorem dX5_mod_13 : decode cX5_mod 13 = .ok (.goto 4, 3) := by decide +kernel
theorem dX5_mod_16 : decode cX5_mod 16 = .ok (.iload_n 1, 1) := by decide +kernel
theorem dX5_mod_17 : decode cX5_mod 17 = .ok (.ireturn, 1) := by decide +kernel
theorem dX5_inverse_0 : decode cX5_inverse 0 = .ok (.iconst 1, 1) := by decide +kernel
theorem dX5_inverse_1 : decode cX5_inverse 1 = .ok (.istore_n 1, 1) := by decide +kernel
theorem dX5_inverse_2 : decode cX5_inverse 2 = .ok (.iload_n 1, 1) := by decide +kernel
theorem dX5_inverse_3 : decode cX5_inverse 3 = .ok (.iload_n 0, 1) := by decide +kernel
theorem dX5_inverse_4 : decode cX5_inverse 4 = .ok (.imul, 1) := by decide +kernel
theorem dX5_inverse_5 : decode cX5_inverse 5 = .ok (.bipush 97, 2) := by decide +kernel
theorem dX5_inverse_7 : decode cX5_inverse 7 = .ok (.irem, 1) := by decide +kernel
theorem dX5_inverse_8 : decode cX5_inverse 8 = .ok (.iconst 1, 1) := by decide +kernel
theorem dX5_inverse_9 : decode cX5_inverse 9 = .ok (.if_icmp .eq 9, 3) := by decide +kernel
theorem dX5_inverse_12 : decode cX5_inverse 12 = .ok (.iinc 1 1, 3) := by decide +kernel
theorem dX5_inverse_15 : decode cX5_inverse 15 = .ok (.goto (-13), 3) := by decide +kernel
theorem dX5_inverse_18 : decode cX5_inverse 18 = .ok (.iload_n 1, 1) := by decide +kernel
theorem dX5_inverse_19 : decode cX5_inverse 19 = .ok (.ireturn, 1) := by decide +kernel
theorem dX5_size_0 : decode cX5_size 0 = .ok (.iconst 1, 1) := by decide +kernel
theorem dX5_size_1 : decode cX5_size 1 = .ok (.aload_n 0, 1) := by decide +kernel
theorem dX5_size_2 : decode cX5_size 2 = .ok (.getfield 7, 3) := by decide +kernel
theorem dX5_size_5 : decode cX5_size 5 = .ok (.ishl, 1) := by decide +kernel
theorem dX5_size_6 : decode cX5_size 6 = .ok (.ireturn, 1) := by decide +kernel
theorem dX5_degree_0 : decode cX5_degree 0 = .ok (.aload_n 0, 1) := by decide +kernel
theorem dX5_degree_1 : decode cX5_degree 1 = .ok (.getfield 7, 3) := by decide +kernel
theorem dX5_degree_4 : decode cX5_degree 4 = .ok (.aload_n 0, 1) := by decide +kernel
theorem dX5_degree_5 : decode cX5_degree 5 = .ok (.getfield 48, 3) := by decide +kernel
theorem dX5_degree_8 : decode cX5_degree 8 = .ok (.imul, 1) := by decide +kernel
theorem dX5_degree_9 : decode cX5_degree 9 = .ok (.ireturn, 1) := by decide +kernel
theorem dX5_isStore_0 : decode cX5_isStore 0 = .ok (.iload_n 0, 1) := by decide +kernel
theorem dX5_isStore_1 : decode cX5_isStore 1 = .ok (.i2l, 1) := by decide +kernel
theorem dX5_isStore_2 : decode cX5_isStore 2 = .ok (.lconst 1, 1) := by decide +kernel
theorem dX5_isStore_3 : decode cX5_isStore 3 = .ok (.ldc2_w 51, 3) := by decide +kernel
theorem dX5_isStore_6 : decode cX5_isStore 6 = .ok (.invokestatic 53, 3) := by decide +kernel
theorem dX5_isStore_9 : decode cX5_isStore 9 = .ok (.ireturn, 1) := by decide +kernel
theorem dX5_isRecord_0 : decode cX5_isRecord 0 = .ok (.iload_n 1, 1) := by decide +kernel
theorem dX5_isRecord_1 : decode cX5_isRecord 1 = .ok (.i2l, 1) := by decide +kernel
theorem dX5_isRecord_2 : decode cX5_isRecord 2 = .ok (.lconst 0, 1) := by decide +kernel
theorem dX5_isRecord_3 : decode cX5_isRecord 3 = .ok (.aload_n 0, 1) := by decide +kernel
theorem dX5_isRecord_4 : decode cX5_isRecord 4 = .ok (.invokevirtual 57, 3) := by decide +kernel
theorem dX5_isRecord_7 : decode cX5_isRecord 7 = .ok (.iconst 1, 1) := by decide +kernel
theorem dX5_isRecord_8 : decode cX5_isRecord 8 = .ok (.isub, 1) := by decide +kernel
theorem dX5_isRecord_9 : decode cX5_isRecord 9 = .ok (.i2l, 1) := by decide +kernel
theorem dX5_isRecord_10 : decode cX5_isRecord 10 = .ok (.invokestatic 53, 3) := by decide +kernel
theorem dX5_isRecord_13 : decode cX5_isRecord 13 = .ok (.ireturn, 1) := by decide +kernel
theorem dX5_isNumber_0 : decode cX5_isNumber 0 = .ok (.iload_n 0, 1) := by decide +kernel
theorem dX5_isNumber_1 : decode cX5_isNumber 1 = .ok (.i2l, 1) := by decide +kernel
theorem dX5_isNumber_2 : decode cX5_isNumber 2 = .ok (.lconst 0, 1) := by decide +kernel
theorem dX5_isNumber_3 : decode cX5_isNumber 3 = .ok (.ldc2_w 61, 3) := by decide +kernel
theorem dX5_isNumber_6 : decode cX5_isNumber 6 = .ok (.invokestatic 53, 3) := by decide +kernel
theorem dX5_isNumber_9 : decode cX5_isNumber 9 = .ok (.ireturn, 1) := by decide +kernel
theorem dX5_copyOf_0 : decode cX5_copyOf 0 = .ok (.aload_n 0, 1) := by decide +kernel
theorem dX5_copyOf_1 : decode cX5_copyOf 1 = .ok (.getfield 17, 3) := by decide +kernel
theorem dX5_copyOf_4 : decode cX5_copyOf 4 = .ok (.iload_n 1, 1) := by decide +kernel
theorem dX5_copyOf_5 : decode cX5_copyOf 5 = .ok (.iaload, 1) := by decide +kernel
theorem dX5_copyOf_6 : decode cX5_copyOf 6 = .ok (.iconst 2, 1) := by decide +kernel
theorem dX5_copyOf_7 : decode cX5_copyOf 7 = .ok (.if_icmp .ne 17, 3) := by decide +kernel
theorem dX5_copyOf_10 : decode cX5_copyOf 10 = .ok (.aload_n 0, 1) := by decide +kernel
theorem dX5_copyOf_11 : decode cX5_copyOf 11 = .ok (.getfield 23, 3) := by decide +kernel
theorem dX5_copyOf_14 : decode cX5_copyOf 14 = .ok (.bipush 8, 2) := by decide +kernel
theorem dX5_copyOf_16 : decode cX5_copyOf 16 = .ok (.iload_n 1, 1) := by decide +kernel
theorem dX5_copyOf_17 : decode cX5_copyOf 17 = .ok (.imul, 1) := by decide +kernel
theorem dX5_copyOf_18 : decode cX5_copyOf 18 = .ok (.iload_n 2, 1) := by decide +kernel
theorem dX5_copyOf_19 : decode cX5_copyOf 19 = .ok (.iadd, 1) := by decide +kernel
theorem dX5_copyOf_20 : decode cX5_copyOf 20 = .ok (.iaload, 1) := by decide +kernel
theorem dX5_copyOf_21 : decode cX5_copyOf 21 = .ok (.goto 9, 3) := by decide +kernel
theorem dX5_copyOf_24 : decode cX5_copyOf 24 = .ok (.aload_n 0, 1) := by decide +kernel
theorem dX5_copyOf_25 : decode cX5_copyOf 25 = .ok (.getfield 13, 3) := by decide +kernel
theorem dX5_copyOf_28 : decode cX5_copyOf 28 = .ok (.iload_n 2, 1) := by decide +kernel
theorem dX5_copyOf_29 : decode cX5_copyOf 29 = .ok (.iaload, 1) := by decide +kernel
theorem dX5_copyOf_30 : decode cX5_copyOf 30 = .ok (.ireturn, 1) := by decide +kernel
theorem dX5_sumOf_0 : decode cX5_sumOf 0 = .ok (.iconst 0, 1) := by decide +kernel
theorem dX5_sumOf_1 : decode cX5_sumOf 1 = .ok (.istore 5, 2) := by decide +kernel
theorem dX5_sumOf_3 : decode cX5_sumOf 3 = .ok (.iconst 0, 1) := by decide +kernel
theorem dX5_sumOf_4 : decode cX5_sumOf 4 = .ok (.istore 6, 2) := by decide +kernel
theorem dX5_sumOf_6 : decode cX5_sumOf 6 = .ok (.iload 6, 2) := by decide +kernel
theorem dX5_sumOf_8 : decode cX5_sumOf 8 = .ok (.aload_n 0, 1) := by decide +kernel
theorem dX5_sumOf_9 : decode cX5_sumOf 9 = .ok (.invokevirtual 57, 3) := by decide +kernel
theorem dX5_sumOf_12 : decode cX5_sumOf 12 = .ok (.if_icmp .ge 114, 3) := by decide +kernel
theorem dX5_sumOf_15 : decode cX5_sumOf 15 = .ok (.iload_n 1, 1) := by decide +kernel
theorem dX5_sumOf_16 : decode cX5_sumOf 16 = .ok (.ifCond .ne 13, 3) := by decide +kernel
theorem dX5_sumOf_19 : decode cX5_sumOf 19 = .ok (.aload_n 0, 1) := by decide +kernel
theorem dX5_sumOf_20 : decode cX5_sumOf 20 = .ok (.getfield 13, 3) := by decide +kernel
theorem dX5_sumOf_23 : decode cX5_sumOf 23 = .ok (.iload 6, 2) := by decide +kernel
theorem dX5_sumOf_25 : decode cX5_sumOf 25 = .ok (.iaload, 1) := by decide +kernel
theorem dX5_sumOf_26 : decode cX5_sumOf 26 = .ok (.goto 10, 3) := by decide +kernel
theorem dX5_sumOf_29 : decode cX5_sumOf 29 = .ok (.aload_n 0, 1) := by decide +kernel
theorem dX5_sumOf_30 : decode cX5_sumOf 30 = .ok (.iload_n 1, 1) := by decide +kernel
theorem dX5_sumOf_31 : decode cX5_sumOf 31 = .ok (.iload 6, 2) := by decide +kernel
theorem dX5_sumOf_33 : decode cX5_sumOf 33 = .ok (.invokevirtual 63, 3) := by decide +kernel
theorem dX5_sumOf_36 : decode cX5_sumOf 36 = .ok (.istore 7, 2) := by decide +kernel
theorem dX5_sumOf_38 : decode cX5_sumOf 38 = .ok (.iconst 0, 1) := by decide +kernel
theorem dX5_sumOf_39 : decode cX5_sumOf 39 = .ok (.istore 8, 2) := by decide +kernel
theorem dX5_sumOf_41 : decode cX5_sumOf 41 = .ok (.iload 8, 2) := by decide +kernel
theorem dX5_sumOf_43 : decode cX5_sumOf 43 = .ok (.aload_n 0, 1) := by decide +kernel
theorem dX5_sumOf_44 : decode cX5_sumOf 44 = .ok (.getfield 7, 3) := by decide +kernel
theorem dX5_sumOf_47 : decode cX5_sumOf 47 = .ok (.if_icmp .ge 63, 3) := by decide +kernel
theorem dX5_sumOf_50 : decode cX5_sumOf 50 = .ok (.iload 8, 2) := by decide +kernel
theorem dX5_sumOf_52 : decode cX5_sumOf 52 = .ok (.ifCond .ne 7, 3) := by decide +kernel
theorem dX5_sumOf_55 : decode cX5_sumOf 55 = .ok (.iload_n 2, 1) := by decide +kernel
theorem dX5_sumOf_56 : decode cX5_sumOf 56 = .ok (.goto 15, 3) := by decide +kernel
theorem dX5_sumOf_59 : decode cX5_sumOf 59 = .ok (.iload 8, 2) := by decide +kernel
theorem dX5_sumOf_61 : decode cX5_sumOf 61 = .ok (.iconst 1, 1) := by decide +kernel
theorem dX5_sumOf_62 : decode cX5_sumOf 62 = .ok (.if_icmp .ne 7, 3) := by decide +kernel
theorem dX5_sumOf_65 : decode cX5_sumOf 65 = .ok (.iload_n 3, 1) := by decide +kernel
theorem dX5_sumOf_66 : decode cX5_sumOf 66 = .ok (.goto 5, 3) := by decide +kernel
theorem dX5_sumOf_69 : decode cX5_sumOf 69 = .ok (.iload 4, 2) := by decide +kernel
theorem dX5_sumOf_71 : decode cX5_sumOf 71 = .ok (.istore 9, 2) := by decide +kernel
theorem dX5_sumOf_73 : decode cX5_sumOf 73 = .ok (.iload 7, 2) := by decide +kernel
theorem dX5_sumOf_75 : decode cX5_sumOf 75 = .ok (.iload 6, 2) := by decide +kernel
theorem dX5_sumOf_77 : decode cX5_sumOf 77 = .ok (.iload 8, 2) := by decide +kernel
theorem dX5_sumOf_79 : decode cX5_sumOf 79 = .ok (.ishr, 1) := by decide +kernel
theorem dX5_sumOf_80 : decode cX5_sumOf 80 = .ok (.iconst 1, 1) := by decide +kernel
theorem dX5_sumOf_81 : decode cX5_sumOf 81 = .ok (.iand, 1) := by decide +kernel
theorem dX5_sumOf_82 : decode cX5_sumOf 82 = .ok (.iconst 1, 1) := by decide +kernel
theorem dX5_sumOf_83 : decode cX5_sumOf 83 = .ok (.if_icmp .ne 8, 3) := by decide +kernel
theorem dX5_sumOf_86 : decode cX5_sumOf 86 = .ok (.iload 9, 2) := by decide +kernel
theorem dX5_sumOf_88 : decode cX5_sumOf 88 = .ok (.goto 10, 3) := by decide +kernel
theorem dX5_sumOf_91 : decode cX5_sumOf 91 = .ok (.iconst 1, 1) := by decide +kernel
theorem dX5_sumOf_92 : decode cX5_sumOf 92 = .ok (.iload 9, 2) := by decide +kernel
theorem dX5_sumOf_94 : decode cX5_sumOf 94 = .ok (.isub, 1) := by decide +kernel
theorem dX5_sumOf_95 : decode cX5_sumOf 95 = .ok (.invokestatic 67, 3) := by decide +kernel
theorem dX5_sumOf_98 : decode cX5_sumOf 98 = .ok (.imul, 1) := by decide +kernel
theorem dX5_sumOf_99 : decode cX5_sumOf 99 = .ok (.invokestatic 67, 3) := by decide +kernel
theorem dX5_sumOf_102 : decode cX5_sumOf 102 = .ok (.istore 7, 2) := by decide +kernel
theorem dX5_sumOf_104 : decode cX5_sumOf 104 = .ok (.iinc 8 1, 3) := by decide +kernel
theorem dX5_sumOf_107 : decode cX5_sumOf 107 = .ok (.goto (-66), 3) := by decide +kernel
theorem dX5_sumOf_110 : decode cX5_sumOf 110 = .ok (.iload 5, 2) := by decide +kernel
theorem dX5_sumOf_112 : decode cX5_sumOf 112 = .ok (.iload 7, 2) := by decide +kernel
theorem dX5_sumOf_114 : decode cX5_sumOf 114 = .ok (.iadd, 1) := by decide +kernel
theorem dX5_sumOf_115 : decode cX5_sumOf 115 = .ok (.invokestatic 67, 3) := by decide +kernel
theorem dX5_sumOf_118 : decode cX5_sumOf 118 = .ok (.istore 5, 2) := by decide +kernel
theorem dX5_sumOf_120 : decode cX5_sumOf 120 = .ok (.iinc 6 1, 3) := by decide +kernel
theorem dX5_sumOf_123 : decode cX5_sumOf 123 = .ok (.goto (-117), 3) := by decide +kernel
theorem dX5_sumOf_126 : decode cX5_sumOf 126 = .ok (.iload 5, 2) := by decide +kernel
theorem dX5_sumOf_128 : decode cX5_sumOf 128 = .ok (.ireturn, 1) := by decide +kernel
theorem dX5_pointOf_0 : decode cX5_pointOf 0 = .ok (.aload_n 0, 1) := by decide +kernel
theorem dX5_pointOf_1 : decode cX5_pointOf 1 = .ok (.getfield 71, 3) := by decide +kernel
theorem dX5_pointOf_4 : decode cX5_pointOf 4 = .ok (.iload_n 2, 1) := by decide +kernel
theorem dX5_pointOf_5 : decode cX5_pointOf 5 = .ok (.ishr, 1) := by decide +kernel
theorem dX5_pointOf_6 : decode cX5_pointOf 6 = .ok (.iconst 1, 1) := by decide +kernel
theorem dX5_pointOf_7 : decode cX5_pointOf 7 = .ok (.iand, 1) := by decide +kernel
theorem dX5_pointOf_8 : decode cX5_pointOf 8 = .ok (.istore_n 3, 1) := by decide +kernel
theorem dX5_pointOf_9 : decode cX5_pointOf 9 = .ok (.iconst 1, 1) := by decide +kernel
theorem dX5_pointOf_10 : decode cX5_pointOf 10 = .ok (.istore 4, 2) := by decide +kernel
theorem dX5_pointOf_12 : decode cX5_pointOf 12 = .ok (.iconst 0, 1) := by decide +kernel
theorem dX5_pointOf_13 : decode cX5_pointOf 13 = .ok (.istore 5, 2) := by decide +kernel
theorem dX5_pointOf_15 : decode cX5_pointOf 15 = .ok (.iload 5, 2) := by decide +kernel
theorem dX5_pointOf_17 : decode cX5_pointOf 17 = .ok (.aload_n 0, 1) := by decide +kernel
theorem dX5_pointOf_18 : decode cX5_pointOf 18 = .ok (.getfield 48, 3) := by decide +kernel
theorem dX5_pointOf_21 : decode cX5_pointOf 21 = .ok (.if_icmp .ge 38, 3) := by decide +kernel
theorem dX5_pointOf_24 : decode cX5_pointOf 24 = .ok (.iload 4, 2) := by decide +kernel
theorem dX5_pointOf_26 : decode cX5_pointOf 26 = .ok (.iload_n 1, 1) := by decide +kernel
theorem dX5_pointOf_27 : decode cX5_pointOf 27 = .ok (.imul, 1) := by decide +kernel
theorem dX5_pointOf_28 : decode cX5_pointOf 28 = .ok (.invokestatic 67, 3) := by decide +kernel
theorem dX5_pointOf_31 : decode cX5_pointOf 31 = .ok (.istore 4, 2) := by decide +kernel
theorem dX5_pointOf_33 : decode cX5_pointOf 33 = .ok (.iload_n 3, 1) := by decide +kernel
theorem dX5_pointOf_34 : decode cX5_pointOf 34 = .ok (.aload_n 0, 1) := by decide +kernel
theorem dX5_pointOf_35 : decode cX5_pointOf 35 = .ok (.getfield 26, 3) := by decide +kernel
theorem dX5_pointOf_38 : decode cX5_pointOf 38 = .ok (.iconst 2, 1) := by decide +kernel
theorem dX5_pointOf_39 : decode cX5_pointOf 39 = .ok (.iload_n 2, 1) := by decide +kernel
theorem dX5_pointOf_40 : decode cX5_pointOf 40 = .ok (.imul, 1) := by decide +kernel
theorem dX5_pointOf_41 : decode cX5_pointOf 41 = .ok (.iload 5, 2) := by decide +kernel
theorem dX5_pointOf_43 : decode cX5_pointOf 43 = .ok (.iadd, 1) := by decide +kernel
theorem dX5_pointOf_44 : decode cX5_pointOf 44 = .ok (.iaload, 1) := by decide +kernel
theorem dX5_pointOf_45 : decode cX5_pointOf 45 = .ok (.iload 4, 2) := by decide +kernel
theorem dX5_pointOf_47 : decode cX5_pointOf 47 = .ok (.imul, 1) := by decide +kernel
theorem dX5_pointOf_48 : decode cX5_pointOf 48 = .ok (.iadd, 1) := by decide +kernel
theorem dX5_pointOf_49 : decode cX5_pointOf 49 = .ok (.invokestatic 67, 3) := by decide +kernel
theorem dX5_pointOf_52 : decode cX5_pointOf 52 = .ok (.istore_n 3, 1) := by decide +kernel
theorem dX5_pointOf_53 : decode cX5_pointOf 53 = .ok (.iinc 5 1, 3) := by decide +kernel
theorem dX5_pointOf_56 : decode cX5_pointOf 56 = .ok (.goto (-41), 3) := by decide +kernel
theorem dX5_pointOf_59 : decode cX5_pointOf 59 = .ok (.iload_n 3, 1) := by decide +kernel
theorem dX5_pointOf_60 : decode cX5_pointOf 60 = .ok (.ireturn, 1) := by decide +kernel
theorem dX5_answerOf_0 : decode cX5_answerOf 0 = .ok (.aload_n 0, 1) := by decide +kernel
theorem dX5_answerOf_1 : decode cX5_answerOf 1 = .ok (.iload_n 1, 1) := by decide +kernel
theorem dX5_answerOf_2 : decode cX5_answerOf 2 = .ok (.aload_n 0, 1) := by decide +kernel
theorem dX5_answerOf_3 : decode cX5_answerOf 3 = .ok (.iload_n 1, 1) := by decide +kernel
theorem dX5_answerOf_4 : decode cX5_answerOf 4 = .ok (.iconst 0, 1) := by decide +kernel
theorem dX5_answerOf_5 : decode cX5_answerOf 5 = .ok (.invokevirtual 74, 3) := by decide +kernel
theorem dX5_answerOf_8 : decode cX5_answerOf 8 = .ok (.aload_n 0, 1) := by decide +kernel
theorem dX5_answerOf_9 : decode cX5_answerOf 9 = .ok (.iload_n 1, 1) := by decide +kernel
theorem dX5_answerOf_10 : decode cX5_answerOf 10 = .ok (.iconst 1, 1) := by decide +kernel
theorem dX5_answerOf_11 : decode cX5_answerOf 11 = .ok (.invokevirtual 74, 3) := by decide +kernel
theorem dX5_answerOf_14 : decode cX5_answerOf 14 = .ok (.aload_n 0, 1) := by decide +kernel
theorem dX5_answerOf_15 : decode cX5_answerOf 15 = .ok (.iload_n 1, 1) := by decide +kernel
theorem dX5_answerOf_16 : decode cX5_answerOf 16 = .ok (.iconst 2, 1) := by decide +kernel
theorem dX5_answerOf_17 : decode cX5_answerOf 17 = .ok (.invokevirtual 74, 3) := by decide +kernel
theorem dX5_answerOf_20 : decode cX5_answerOf 20 = .ok (.invokevirtual 77, 3) := by decide +kernel
theorem dX5_answerOf_23 : decode cX5_answerOf 23 = .ok (.aload_n 0, 1) := by decide +kernel
theorem dX5_answerOf_24 : decode cX5_answerOf 24 = .ok (.getfield 17, 3) := by decide +kernel
theorem dX5_answerOf_27 : decode cX5_answerOf 27 = .ok (.iload_n 1, 1) := by decide +kernel
theorem dX5_answerOf_28 : decode cX5_answerOf 28 = .ok (.iaload, 1) := by decide +kernel
theorem dX5_answerOf_29 : decode cX5_answerOf 29 = .ok (.iconst 1, 1) := by decide +kernel
theorem dX5_answerOf_30 : decode cX5_answerOf 30 = .ok (.if_icmp .ne 12, 3) := by decide +kernel
theorem dX5_answerOf_33 : decode cX5_answerOf 33 = .ok (.aload_n 0, 1) := by decide +kernel
theorem dX5_answerOf_34 : decode cX5_answerOf 34 = .ok (.getfield 20, 3) := by decide +kernel
theorem dX5_answerOf_37 : decode cX5_answerOf 37 = .ok (.iload_n 1, 1) := by decide +kernel
theorem dX5_answerOf_38 : decode cX5_answerOf 38 = .ok (.iaload, 1) := by decide +kernel
theorem dX5_answerOf_39 : decode cX5_answerOf 39 = .ok (.goto 4, 3) := by decide +kernel
theorem dX5_answerOf_42 : decode cX5_answerOf 42 = .ok (.iconst 0, 1) := by decide +kernel
theorem dX5_answerOf_43 : decode cX5_answerOf 43 = .ok (.iadd, 1) := by decide +kernel
theorem dX5_answerOf_44 : decode cX5_answerOf 44 = .ok (.istore_n 2, 1) := by decide +kernel
theorem dX5_answerOf_45 : decode cX5_answerOf 45 = .ok (.iconst 1, 1) := by decide +kernel
theorem dX5_answerOf_46 : decode cX5_answerOf 46 = .ok (.istore_n 3, 1) := by decide +kernel
theorem dX5_answerOf_47 : decode cX5_answerOf 47 = .ok (.iconst 1, 1) := by decide +kernel
theorem dX5_answerOf_48 : decode cX5_answerOf 48 = .ok (.istore 4, 2) := by decide +kernel
theorem dX5_answerOf_50 : decode cX5_answerOf 50 = .ok (.iload 4, 2) := by decide +kernel
theorem dX5_answerOf_52 : decode cX5_answerOf 52 = .ok (.aload_n 0, 1) := by decide +kernel
theorem dX5_answerOf_53 : decode cX5_answerOf 53 = .ok (.invokevirtual 81, 3) := by decide +kernel
theorem dX5_answerOf_56 : decode cX5_answerOf 56 = .ok (.if_icmp .gt 38, 3) := by decide +kernel
theorem dX5_answerOf_59 : decode cX5_answerOf 59 = .ok (.aload_n 0, 1) := by decide +kernel
theorem dX5_answerOf_60 : decode cX5_answerOf 60 = .ok (.getfield 84, 3) := by decide +kernel
theorem dX5_answerOf_63 : decode cX5_answerOf 63 = .ok (.ifCond .eq 31, 3) := by decide +kernel
theorem dX5_answerOf_66 : decode cX5_answerOf 66 = .ok (.iload_n 3, 1) := by decide +kernel
theorem dX5_answerOf_67 : decode cX5_answerOf 67 = .ok (.iload_n 1, 1) := by decide +kernel
theorem dX5_answerOf_68 : decode cX5_answerOf 68 = .ok (.imul, 1) := by decide +kernel
theorem dX5_answerOf_69 : decode cX5_answerOf 69 = .ok (.invokestatic 67, 3) := by decide +kernel
theorem dX5_answerOf_72 : decode cX5_answerOf 72 = .ok (.istore_n 3, 1) := by decide +kernel
theorem dX5_answerOf_73 : decode cX5_answerOf 73 = .ok (.iload_n 2, 1) := by decide +kernel
theorem dX5_answerOf_74 : decode cX5_answerOf 74 = .ok (.aload_n 0, 1) := by decide +kernel
theorem dX5_answerOf_75 : decode cX5_answerOf 75 = .ok (.getfield 29, 3) := by decide +kernel
theorem dX5_answerOf_78 : decode cX5_answerOf 78 = .ok (.iload 4, 2) := by decide +kernel
theorem dX5_answerOf_80 : decode cX5_answerOf 80 = .ok (.iaload, 1) := by decide +kernel
theorem dX5_answerOf_81 : decode cX5_answerOf 81 = .ok (.iload_n 3, 1) := by decide +kernel
theorem dX5_answerOf_82 : decode cX5_answerOf 82 = .ok (.imul, 1) := by decide +kernel
theorem dX5_answerOf_83 : decode cX5_answerOf 83 = .ok (.iadd, 1) := by decide +kernel
theorem dX5_answerOf_84 : decode cX5_answerOf 84 = .ok (.invokestatic 67, 3) := by decide +kernel
theorem dX5_answerOf_87 : decode cX5_answerOf 87 = .ok (.istore_n 2, 1) := by decide +kernel
theorem dX5_answerOf_88 : decode cX5_answerOf 88 = .ok (.iinc 4 1, 3) := by decide +kernel
theorem dX5_answerOf_91 : decode cX5_answerOf 91 = .ok (.goto (-41), 3) := by decide +kernel
theorem dX5_answerOf_94 : decode cX5_answerOf 94 = .ok (.iload_n 2, 1) := by decide +kernel
theorem dX5_answerOf_95 : decode cX5_answerOf 95 = .ok (.invokestatic 67, 3) := by decide +kernel
theorem dX5_answerOf_98 : decode cX5_answerOf 98 = .ok (.ireturn, 1) := by decide +kernel
theorem dX5_records_0 : decode cX5_records 0 = .ok (.aload_n 0, 1) := by decide +kernel
theorem dX5_records_1 : decode cX5_records 1 = .ok (.iconst 0, 1) := by decide +kernel
theorem dX5_records_2 : decode cX5_records 2 = .ok (.putfield 45, 3) := by decide +kernel
theorem dX5_records_5 : decode cX5_records 5 = .ok (.iload_n 1, 1) := by decide +kernel
theorem dX5_records_6 : decode cX5_records 6 = .ok (.i2l, 1) := by decide +kernel
theorem dX5_records_7 : decode cX5_records 7 = .ok (.lconst 1, 1) := by decide +kernel
theorem dX5_records_8 : decode cX5_records 8 = .ok (.ldc2_w 88, 3) := by decide +kernel
theorem dX5_records_11 : decode cX5_records 11 = .ok (.invokestatic 53, 3) := by decide +kernel
theorem dX5_records_14 : decode cX5_records 14 = .ok (.ifCond .ne 6, 3) := by decide +kernel
theorem dX5_records_17 : decode cX5_records 17 = .ok (.bipush (-2), 2) := by decide +kernel
theorem dX5_records_19 : decode cX5_records 19 = .ok (.ireturn, 1) := by decide +kernel
theorem dX5_records_20 : decode cX5_records 20 = .ok (.aload_n 0, 1) := by decide +kernel
theorem dX5_records_21 : decode cX5_records 21 = .ok (.invokevirtual 57, 3) := by decide +kernel
theorem dX5_records_24 : decode cX5_records 24 = .ok (.istore_n 2, 1) := by decide +kernel
theorem dX5_records_25 : decode cX5_records 25 = .ok (.aload_n 0, 1) := by decide +kernel
theorem dX5_records_26 : decode cX5_records 26 = .ok (.iload_n 1, 1) := by decide +kernel
theorem dX5_records_27 : decode cX5_records 27 = .ok (.putfield 7, 3) := by decide +kernel
theorem dX5_records_30 : decode cX5_records 30 = .ok (.iconst 0, 1) := by decide +kernel
theorem dX5_records_31 : decode cX5_records 31 = .ok (.istore_n 3, 1) := by decide +kernel
theorem dX5_records_32 : decode cX5_records 32 = .ok (.iload_n 3, 1) := by decide +kernel
theorem dX5_records_33 : decode cX5_records 33 = .ok (.bipush 8, 2) := by decide +kernel
theorem dX5_records_35 : decode cX5_records 35 = .ok (.if_icmp .ge 16, 3) := by decide +kernel
theorem dX5_records_38 : decode cX5_records 38 = .ok (.aload_n 0, 1) := by decide +kernel
theorem dX5_records_39 : decode cX5_records 39 = .ok (.getfield 13, 3) := by decide +kernel
theorem dX5_records_42 : decode cX5_records 42 = .ok (.iload_n 3, 1) := by decide +kernel
theorem dX5_records_43 : decode cX5_records 43 = .ok (.iconst 0, 1) := by decide +kernel
theorem dX5_records_44 : decode cX5_records 44 = .ok (.iastore, 1) := by decide +kernel
theorem dX5_records_45 : decode cX5_records 45 = .ok (.iinc 3 1, 3) := by decide +kernel
theorem dX5_records_48 : decode cX5_records 48 = .ok (.goto (-16), 3) := by decide +kernel
theorem dX5_records_51 : decode cX5_records 51 = .ok (.iconst 0, 1) := by decide +kernel
theorem dX5_records_52 : decode cX5_records 52 = .ok (.istore_n 3, 1) := by decide +kernel
theorem dX5_records_53 : decode cX5_records 53 = .ok (.iload_n 3, 1) := by decide +kernel
theorem dX5_records_54 : decode cX5_records 54 = .ok (.bipush 10, 2) := by decide +kernel
theorem dX5_records_56 : decode cX5_records 56 = .ok (.if_icmp .ge 16, 3) := by decide +kernel
theorem dX5_records_59 : decode cX5_records 59 = .ok (.aload_n 0, 1) := by decide +kernel
theorem dX5_records_60 : decode cX5_records 60 = .ok (.getfield 17, 3) := by decide +kernel
theorem dX5_records_63 : decode cX5_records 63 = .ok (.iload_n 3, 1) := by decide +kernel
theorem dX5_records_64 : decode cX5_records 64 = .ok (.iconst 0, 1) := by decide +kernel
theorem dX5_records_65 : decode cX5_records 65 = .ok (.iastore, 1) := by decide +kernel
theorem dX5_records_66 : decode cX5_records 66 = .ok (.iinc 3 1, 3) := by decide +kernel
theorem dX5_records_69 : decode cX5_records 69 = .ok (.goto (-16), 3) := by decide +kernel
theorem dX5_records_72 : decode cX5_records 72 = .ok (.aload_n 0, 1) := by decide +kernel
theorem dX5_records_73 : decode cX5_records 73 = .ok (.iconst 0, 1) := by decide +kernel
theorem dX5_records_74 : decode cX5_records 74 = .ok (.putfield 90, 3) := by decide +kernel
theorem dX5_records_77 : decode cX5_records 77 = .ok (.aload_n 0, 1) := by decide +kernel
theorem dX5_records_78 : decode cX5_records 78 = .ok (.iconst 0, 1) := by decide +kernel
theorem dX5_records_79 : decode cX5_records 79 = .ok (.putfield 84, 3) := by decide +kernel
theorem dX5_records_82 : decode cX5_records 82 = .ok (.iload_n 2, 1) := by decide +kernel
theorem dX5_records_83 : decode cX5_records 83 = .ok (.ireturn, 1) := by decide +kernel
theorem dX5_put_0 : decode cX5_put 0 = .ok (.aload_n 0, 1) := by decide +kernel
theorem dX5_put_1 : decode cX5_put 1 = .ok (.iconst 0, 1) := by decide +kernel
theorem dX5_put_2 : decode cX5_put 2 = .ok (.putfield 45, 3) := by decide +kernel
theorem dX5_put_5 : decode cX5_put 5 = .ok (.aload_n 0, 1) := by decide +kernel
theorem dX5_put_6 : decode cX5_put 6 = .ok (.iload_n 1, 1) := by decide +kernel
theorem dX5_put_7 : decode cX5_put 7 = .ok (.invokevirtual 93, 3) := by decide +kernel
theorem dX5_put_10 : decode cX5_put 10 = .ok (.ifCond .ne 5, 3) := by decide +kernel
theorem dX5_put_13 : decode cX5_put 13 = .ok (.iconst (-1), 1) := by decide +kernel
theorem dX5_put_14 : decode cX5_put 14 = .ok (.ireturn, 1) := by decide +kernel
theorem dX5_put_15 : decode cX5_put 15 = .ok (.iload_n 2, 1) := by decide +kernel
theorem dX5_put_16 : decode cX5_put 16 = .ok (.invokestatic 97, 3) := by decide +kernel
theorem dX5_put_19 : decode cX5_put 19 = .ok (.ifCond .ne 6, 3) := by decide +kernel
theorem dX5_put_22 : decode cX5_put 22 = .ok (.bipush (-2), 2) := by decide +kernel
theorem dX5_put_24 : decode cX5_put 24 = .ok (.ireturn, 1) := by decide +kernel
theorem dX5_put_25 : decode cX5_put 25 = .ok (.aload_n 0, 1) := by decide +kernel
theorem dX5_put_26 : decode cX5_put 26 = .ok (.getfield 13, 3) := by decide +kernel
theorem dX5_put_29 : decode cX5_put 29 = .ok (.iload_n 1, 1) := by decide +kernel
theorem dX5_put_30 : decode cX5_put 30 = .ok (.iaload, 1) := by decide +kernel
theorem dX5_put_31 : decode cX5_put 31 = .ok (.istore_n 3, 1) := by decide +kernel
theorem dX5_put_32 : decode cX5_put 32 = .ok (.aload_n 0, 1) := by decide +kernel
theorem dX5_put_33 : decode cX5_put 33 = .ok (.getfield 13, 3) := by decide +kernel
theorem dX5_put_36 : decode cX5_put 36 = .ok (.iload_n 1, 1) := by decide +kernel
theorem dX5_put_37 : decode cX5_put 37 = .ok (.iload_n 2, 1) := by decide +kernel
theorem dX5_put_38 : decode cX5_put 38 = .ok (.iastore, 1) := by decide +kernel
theorem dX5_put_39 : decode cX5_put 39 = .ok (.iload_n 3, 1) := by decide +kernel
theorem dX5_put_40 : decode cX5_put 40 = .ok (.ireturn, 1) := by decide +kernel
theorem dX5_record_0 : decode cX5_record 0 = .ok (.aload_n 0, 1) := by decide +kernel
theorem dX5_record_1 : decode cX5_record 1 = .ok (.iconst 0, 1) := by decide +kernel
theorem dX5_record_2 : decode cX5_record 2 = .ok (.putfield 45, 3) := by decide +kernel
theorem dX5_record_5 : decode cX5_record 5 = .ok (.aload_n 0, 1) := by decide +kernel
theorem dX5_record_6 : decode cX5_record 6 = .ok (.iload_n 1, 1) := by decide +kernel
theorem dX5_record_7 : decode cX5_record 7 = .ok (.invokevirtual 93, 3) := by decide +kernel
theorem dX5_record_10 : decode cX5_record 10 = .ok (.ifCond .eq 12, 3) := by decide +kernel
theorem dX5_record_13 : decode cX5_record 13 = .ok (.aload_n 0, 1) := by decide +kernel
theorem dX5_record_14 : decode cX5_record 14 = .ok (.getfield 13, 3) := by decide +kernel
theorem dX5_record_17 : decode cX5_record 17 = .ok (.iload_n 1, 1) := by decide +kernel
theorem dX5_record_18 : decode cX5_record 18 = .ok (.iaload, 1) := by decide +kernel
theorem dX5_record_19 : decode cX5_record 19 = .ok (.goto 4, 3) := by decide +kernel
theorem dX5_record_22 : decode cX5_record 22 = .ok (.iconst (-1), 1) := by decide +kernel
theorem dX5_record_23 : decode cX5_record 23 = .ok (.ireturn, 1) := by decide +kernel
theorem dX5_store_0 : decode cX5_store 0 = .ok (.aload_n 0, 1) := by decide +kernel
theorem dX5_store_1 : decode cX5_store 1 = .ok (.iconst 0, 1) := by decide +kernel
theorem dX5_store_2 : decode cX5_store 2 = .ok (.putfield 45, 3) := by decide +kernel
theorem dX5_store_5 : decode cX5_store 5 = .ok (.iload_n 1, 1) := by decide +kernel
theorem dX5_store_6 : decode cX5_store 6 = .ok (.invokestatic 100, 3) := by decide +kernel
theorem dX5_store_9 : decode cX5_store 9 = .ok (.ifCond .ne 5, 3) := by decide +kernel
theorem dX5_store_12 : decode cX5_store 12 = .ok (.iconst (-1), 1) := by decide +kernel
theorem dX5_store_13 : decode cX5_store 13 = .ok (.ireturn, 1) := by decide +kernel
theorem dX5_store_14 : decode cX5_store 14 = .ok (.iload_n 2, 1) := by decide +kernel
theorem dX5_store_15 : decode cX5_store 15 = .ok (.i2l, 1) := by decide +kernel
theorem dX5_store_16 : decode cX5_store 16 = .ok (.lconst 0, 1) := by decide +kernel
theorem dX5_store_17 : decode cX5_store 17 = .ok (.ldc2_w 88, 3) := by decide +kernel
theorem dX5_store_20 : decode cX5_store 20 = .ok (.invokestatic 53, 3) := by decide +kernel
theorem dX5_store_23 : decode cX5_store 23 = .ok (.ifCond .eq 20, 3) := by decide +kernel
theorem dX5_store_26 : decode cX5_store 26 = .ok (.iload_n 2, 1) := by decide +kernel
theorem dX5_store_27 : decode cX5_store 27 = .ok (.iconst 1, 1) := by decide +kernel
theorem dX5_store_28 : decode cX5_store 28 = .ok (.if_icmp .ne 18, 3) := by decide +kernel
theorem dX5_store_31 : decode cX5_store 31 = .ok (.iload_n 3, 1) := by decide +kernel
theorem dX5_store_32 : decode cX5_store 32 = .ok (.i2l, 1) := by decide +kernel
theorem dX5_store_33 : decode cX5_store 33 = .ok (.lconst 1, 1) := by decide +kernel
theorem dX5_store_34 : decode cX5_store 34 = .ok (.ldc2_w 61, 3) := by decide +kernel
theorem dX5_store_37 : decode cX5_store 37 = .ok (.invokestatic 53, 3) := by decide +kernel
theorem dX5_store_40 : decode cX5_store 40 = .ok (.ifCond .ne 6, 3) := by decide +kernel
theorem dX5_store_43 : decode cX5_store 43 = .ok (.bipush (-2), 2) := by decide +kernel
theorem dX5_store_45 : decode cX5_store 45 = .ok (.ireturn, 1) := by decide +kernel
theorem dX5_store_46 : decode cX5_store 46 = .ok (.aload_n 0, 1) := by decide +kernel
theorem dX5_store_47 : decode cX5_store 47 = .ok (.getfield 17, 3) := by decide +kernel
theorem dX5_store_50 : decode cX5_store 50 = .ok (.iload_n 1, 1) := by decide +kernel
theorem dX5_store_51 : decode cX5_store 51 = .ok (.iaload, 1) := by decide +kernel
theorem dX5_store_52 : decode cX5_store 52 = .ok (.istore 4, 2) := by decide +kernel
theorem dX5_store_54 : decode cX5_store 54 = .ok (.aload_n 0, 1) := by decide +kernel
theorem dX5_store_55 : decode cX5_store 55 = .ok (.getfield 17, 3) := by decide +kernel
theorem dX5_store_58 : decode cX5_store 58 = .ok (.iload_n 1, 1) := by decide +kernel
theorem dX5_store_59 : decode cX5_store 59 = .ok (.iload_n 2, 1) := by decide +kernel
theorem dX5_store_60 : decode cX5_store 60 = .ok (.iastore, 1) := by decide +kernel
theorem dX5_store_61 : decode cX5_store 61 = .ok (.aload_n 0, 1) := by decide +kernel
theorem dX5_store_62 : decode cX5_store 62 = .ok (.getfield 20, 3) := by decide +kernel
theorem dX5_store_65 : decode cX5_store 65 = .ok (.iload_n 1, 1) := by decide +kernel
theorem dX5_store_66 : decode cX5_store 66 = .ok (.iload_n 3, 1) := by decide +kernel
theorem dX5_store_67 : decode cX5_store 67 = .ok (.iastore, 1) := by decide +kernel
theorem dX5_store_68 : decode cX5_store 68 = .ok (.iconst 0, 1) := by decide +kernel
theorem dX5_store_69 : decode cX5_store 69 = .ok (.istore 5, 2) := by decide +kernel
theorem dX5_store_71 : decode cX5_store 71 = .ok (.iload 5, 2) := by decide +kernel
theorem dX5_store_73 : decode cX5_store 73 = .ok (.bipush 8, 2) := by decide +kernel
theorem dX5_store_75 : decode cX5_store 75 = .ok (.if_icmp .ge 28, 3) := by decide +kernel
theorem dX5_store_78 : decode cX5_store 78 = .ok (.aload_n 0, 1) := by decide +kernel
theorem dX5_store_79 : decode cX5_store 79 = .ok (.getfield 23, 3) := by decide +kernel
theorem dX5_store_82 : decode cX5_store 82 = .ok (.bipush 8, 2) := by decide +kernel
theorem dX5_store_84 : decode cX5_store 84 = .ok (.iload_n 1, 1) := by decide +kernel
theorem dX5_store_85 : decode cX5_store 85 = .ok (.imul, 1) := by decide +kernel
theorem dX5_store_86 : decode cX5_store 86 = .ok (.iload 5, 2) := by decide +kernel
theorem dX5_store_88 : decode cX5_store 88 = .ok (.iadd, 1) := by decide +kernel
theorem dX5_store_89 : decode cX5_store 89 = .ok (.aload_n 0, 1) := by decide +kernel
theorem dX5_store_90 : decode cX5_store 90 = .ok (.getfield 13, 3) := by decide +kernel
theorem dX5_store_93 : decode cX5_store 93 = .ok (.iload 5, 2) := by decide +kernel
theorem dX5_store_95 : decode cX5_store 95 = .ok (.iaload, 1) := by decide +kernel
theorem dX5_store_96 : decode cX5_store 96 = .ok (.iastore, 1) := by decide +kernel
theorem dX5_store_97 : decode cX5_store 97 = .ok (.iinc 5 1, 3) := by decide +kernel
theorem dX5_store_100 : decode cX5_store 100 = .ok (.goto (-29), 3) := by decide +kernel
theorem dX5_store_103 : decode cX5_store 103 = .ok (.iload 4, 2) := by decide +kernel
theorem dX5_store_105 : decode cX5_store 105 = .ok (.ireturn, 1) := by decide +kernel
theorem dX5_taken_0 : decode cX5_taken 0 = .ok (.aload_n 0, 1) := by decide +kernel
theorem dX5_taken_1 : decode cX5_taken 1 = .ok (.iconst 0, 1) := by decide +kernel
theorem dX5_taken_2 : decode cX5_taken 2 = .ok (.putfield 45, 3) := by decide +kernel
theorem dX5_taken_5 : decode cX5_taken 5 = .ok (.iload_n 1, 1) := by decide +kernel
theorem dX5_taken_6 : decode cX5_taken 6 = .ok (.invokestatic 100, 3) := by decide +kernel
theorem dX5_taken_9 : decode cX5_taken 9 = .ok (.ifCond .ne 5, 3) := by decide +kernel
theorem dX5_taken_12 : decode cX5_taken 12 = .ok (.iconst (-1), 1) := by decide +kernel
theorem dX5_taken_13 : decode cX5_taken 13 = .ok (.ireturn, 1) := by decide +kernel
theorem dX5_taken_14 : decode cX5_taken 14 = .ok (.iload_n 2, 1) := by decide +kernel
theorem dX5_taken_15 : decode cX5_taken 15 = .ok (.i2l, 1) := by decide +kernel
theorem dX5_taken_16 : decode cX5_taken 16 = .ok (.lconst 0, 1) := by decide +kernel
theorem dX5_taken_17 : decode cX5_taken 17 = .ok (.ldc2_w 88, 3) := by decide +kernel
theorem dX5_taken_20 : decode cX5_taken 20 = .ok (.invokestatic 53, 3) := by decide +kernel
theorem dX5_taken_23 : decode cX5_taken 23 = .ok (.ifCond .eq 15, 3) := by decide +kernel
theorem dX5_taken_26 : decode cX5_taken 26 = .ok (.iload_n 3, 1) := by decide +kernel
theorem dX5_taken_27 : decode cX5_taken 27 = .ok (.i2l, 1) := by decide +kernel
theorem dX5_taken_28 : decode cX5_taken 28 = .ok (.lconst 0, 1) := by decide +kernel
theorem dX5_taken_29 : decode cX5_taken 29 = .ok (.ldc2_w 103, 3) := by decide +kernel
theorem dX5_taken_32 : decode cX5_taken 32 = .ok (.invokestatic 53, 3) := by decide +kernel
theorem dX5_taken_35 : decode cX5_taken 35 = .ok (.ifCond .ne 6, 3) := by decide +kernel
theorem dX5_taken_38 : decode cX5_taken 38 = .ok (.bipush (-2), 2) := by decide +kernel
theorem dX5_taken_40 : decode cX5_taken 40 = .ok (.ireturn, 1) := by decide +kernel
theorem dX5_taken_41 : decode cX5_taken 41 = .ok (.iload_n 2, 1) := by decide +kernel
theorem dX5_taken_42 : decode cX5_taken 42 = .ok (.ifCond .eq 16, 3) := by decide +kernel
theorem dX5_taken_45 : decode cX5_taken 45 = .ok (.aload_n 0, 1) := by decide +kernel
theorem dX5_taken_46 : decode cX5_taken 46 = .ok (.getfield 17, 3) := by decide +kernel
theorem dX5_taken_49 : decode cX5_taken 49 = .ok (.iload_n 1, 1) := by decide +kernel
theorem dX5_taken_50 : decode cX5_taken 50 = .ok (.iaload, 1) := by decide +kernel
theorem dX5_taken_51 : decode cX5_taken 51 = .ok (.iload_n 2, 1) := by decide +kernel
theorem dX5_taken_52 : decode cX5_taken 52 = .ok (.if_icmp .eq 6, 3) := by decide +kernel
theorem dX5_taken_55 : decode cX5_taken 55 = .ok (.bipush (-13), 2) := by decide +kernel
theorem dX5_taken_57 : decode cX5_taken 57 = .ok (.ireturn, 1) := by decide +kernel
theorem dX5_taken_58 : decode cX5_taken 58 = .ok (.iload_n 3, 1) := by decide +kernel
theorem dX5_taken_59 : decode cX5_taken 59 = .ok (.ifCond .ne 12, 3) := by decide +kernel
theorem dX5_taken_62 : decode cX5_taken 62 = .ok (.aload_n 0, 1) := by decide +kernel
theorem dX5_taken_63 : decode cX5_taken 63 = .ok (.getfield 17, 3) := by decide +kernel
theorem dX5_taken_66 : decode cX5_taken 66 = .ok (.iload_n 1, 1) := by decide +kernel
theorem dX5_taken_67 : decode cX5_taken 67 = .ok (.iaload, 1) := by decide +kernel
theorem dX5_taken_68 : decode cX5_taken 68 = .ok (.goto 53, 3) := by decide +kernel
theorem dX5_taken_71 : decode cX5_taken 71 = .ok (.iload_n 3, 1) := by decide +kernel
theorem dX5_taken_72 : decode cX5_taken 72 = .ok (.iconst 1, 1) := by decide +kernel
theorem dX5_taken_73 : decode cX5_taken 73 = .ok (.if_icmp .ne 27, 3) := by decide +kernel
theorem dX5_taken_76 : decode cX5_taken 76 = .ok (.aload_n 0, 1) := by decide +kernel
theorem dX5_taken_77 : decode cX5_taken 77 = .ok (.getfield 17, 3) := by decide +kernel
theorem dX5_taken_80 : decode cX5_taken 80 = .ok (.iload_n 1, 1) := by decide +kernel
theorem dX5_taken_81 : decode cX5_taken 81 = .ok (.iaload, 1) := by decide +kernel
theorem dX5_taken_82 : decode cX5_taken 82 = .ok (.iconst 1, 1) := by decide +kernel
theorem dX5_taken_83 : decode cX5_taken 83 = .ok (.if_icmp .ne 12, 3) := by decide +kernel
theorem dX5_taken_86 : decode cX5_taken 86 = .ok (.aload_n 0, 1) := by decide +kernel
theorem dX5_taken_87 : decode cX5_taken 87 = .ok (.getfield 20, 3) := by decide +kernel
theorem dX5_taken_90 : decode cX5_taken 90 = .ok (.iload_n 1, 1) := by decide +kernel
theorem dX5_taken_91 : decode cX5_taken 91 = .ok (.iaload, 1) := by decide +kernel
theorem dX5_taken_92 : decode cX5_taken 92 = .ok (.goto 29, 3) := by decide +kernel
theorem dX5_taken_95 : decode cX5_taken 95 = .ok (.bipush (-9), 2) := by decide +kernel
theorem dX5_taken_97 : decode cX5_taken 97 = .ok (.goto 24, 3) := by decide +kernel
theorem dX5_taken_100 : decode cX5_taken 100 = .ok (.aload_n 0, 1) := by decide +kernel
theorem dX5_taken_101 : decode cX5_taken 101 = .ok (.getfield 17, 3) := by decide +kernel
theorem dX5_taken_104 : decode cX5_taken 104 = .ok (.iload_n 1, 1) := by decide +kernel
theorem dX5_taken_105 : decode cX5_taken 105 = .ok (.iaload, 1) := by decide +kernel
theorem dX5_taken_106 : decode cX5_taken 106 = .ok (.iconst 3, 1) := by decide +kernel
theorem dX5_taken_107 : decode cX5_taken 107 = .ok (.if_icmp .ne 8, 3) := by decide +kernel
theorem dX5_taken_110 : decode cX5_taken 110 = .ok (.bipush (-9), 2) := by decide +kernel
theorem dX5_taken_112 : decode cX5_taken 112 = .ok (.goto 9, 3) := by decide +kernel
theorem dX5_taken_115 : decode cX5_taken 115 = .ok (.aload_n 0, 1) := by decide +kernel
theorem dX5_taken_116 : decode cX5_taken 116 = .ok (.iload_n 1, 1) := by decide +kernel
theorem dX5_taken_117 : decode cX5_taken 117 = .ok (.iconst 0, 1) := by decide +kernel
theorem dX5_taken_118 : decode cX5_taken 118 = .ok (.invokevirtual 63, 3) := by decide +kernel
theorem dX5_taken_121 : decode cX5_taken 121 = .ok (.ireturn, 1) := by decide +kernel
theorem dX5_copy_0 : decode cX5_copy 0 = .ok (.aload_n 0, 1) := by decide +kernel
theorem dX5_copy_1 : decode cX5_copy 1 = .ok (.iconst 0, 1) := by decide +kernel
theorem dX5_copy_2 : decode cX5_copy 2 = .ok (.putfield 45, 3) := by decide +kernel
theorem dX5_copy_5 : decode cX5_copy 5 = .ok (.iload_n 1, 1) := by decide +kernel
theorem dX5_copy_6 : decode cX5_copy 6 = .ok (.invokestatic 100, 3) := by decide +kernel
theorem dX5_copy_9 : decode cX5_copy 9 = .ok (.ifCond .eq 11, 3) := by decide +kernel
theorem dX5_copy_12 : decode cX5_copy 12 = .ok (.aload_n 0, 1) := by decide +kernel
theorem dX5_copy_13 : decode cX5_copy 13 = .ok (.iload_n 2, 1) := by decide +kernel
theorem dX5_copy_14 : decode cX5_copy 14 = .ok (.invokevirtual 93, 3) := by decide +kernel
theorem dX5_copy_17 : decode cX5_copy 17 = .ok (.ifCond .ne 7, 3) := by decide +kernel
theorem dX5_copy_20 : decode cX5_copy 20 = .ok (.iconst (-1), 1) := by decide +kernel
theorem dX5_copy_21 : decode cX5_copy 21 = .ok (.goto 24, 3) := by decide +kernel
theorem dX5_copy_24 : decode cX5_copy 24 = .ok (.aload_n 0, 1) := by decide +kernel
theorem dX5_copy_25 : decode cX5_copy 25 = .ok (.getfield 17, 3) := by decide +kernel
theorem dX5_copy_28 : decode cX5_copy 28 = .ok (.iload_n 1, 1) := by decide +kernel
theorem dX5_copy_29 : decode cX5_copy 29 = .ok (.iaload, 1) := by decide +kernel
theorem dX5_copy_30 : decode cX5_copy 30 = .ok (.iconst 3, 1) := by decide +kernel
theorem dX5_copy_31 : decode cX5_copy 31 = .ok (.if_icmp .ne 8, 3) := by decide +kernel
theorem dX5_copy_34 : decode cX5_copy 34 = .ok (.bipush (-9), 2) := by decide +kernel
theorem dX5_copy_36 : decode cX5_copy 36 = .ok (.goto 9, 3) := by decide +kernel
theorem dX5_copy_39 : decode cX5_copy 39 = .ok (.aload_n 0, 1) := by decide +kernel
theorem dX5_copy_40 : decode cX5_copy 40 = .ok (.iload_n 1, 1) := by decide +kernel
theorem dX5_copy_41 : decode cX5_copy 41 = .ok (.iload_n 2, 1) := by decide +kernel
theorem dX5_copy_42 : decode cX5_copy 42 = .ok (.invokevirtual 63, 3) := by decide +kernel
theorem dX5_copy_45 : decode cX5_copy 45 = .ok (.ireturn, 1) := by decide +kernel
theorem dX5_sum_0 : decode cX5_sum 0 = .ok (.aload_n 0, 1) := by decide +kernel
theorem dX5_sum_1 : decode cX5_sum 1 = .ok (.iconst 0, 1) := by decide +kernel
theorem dX5_sum_2 : decode cX5_sum 2 = .ok (.putfield 45, 3) := by decide +kernel
theorem dX5_sum_5 : decode cX5_sum 5 = .ok (.iload_n 1, 1) := by decide +kernel
theorem dX5_sum_6 : decode cX5_sum 6 = .ok (.invokestatic 97, 3) := by decide +kernel
theorem dX5_sum_9 : decode cX5_sum 9 = .ok (.ifCond .eq 33, 3) := by decide +kernel
theorem dX5_sum_12 : decode cX5_sum 12 = .ok (.aload_n 0, 1) := by decide +kernel
theorem dX5_sum_13 : decode cX5_sum 13 = .ok (.getfield 7, 3) := by decide +kernel
theorem dX5_sum_16 : decode cX5_sum 16 = .ok (.iconst 1, 1) := by decide +kernel
theorem dX5_sum_17 : decode cX5_sum 17 = .ok (.if_icmp .le 10, 3) := by decide +kernel
theorem dX5_sum_20 : decode cX5_sum 20 = .ok (.iload_n 2, 1) := by decide +kernel
theorem dX5_sum_21 : decode cX5_sum 21 = .ok (.invokestatic 97, 3) := by decide +kernel
theorem dX5_sum_24 : decode cX5_sum 24 = .ok (.ifCond .eq 18, 3) := by decide +kernel
theorem dX5_sum_27 : decode cX5_sum 27 = .ok (.aload_n 0, 1) := by decide +kernel
theorem dX5_sum_28 : decode cX5_sum 28 = .ok (.getfield 7, 3) := by decide +kernel
theorem dX5_sum_31 : decode cX5_sum 31 = .ok (.iconst 2, 1) := by decide +kernel
theorem dX5_sum_32 : decode cX5_sum 32 = .ok (.if_icmp .le 13, 3) := by decide +kernel
theorem dX5_sum_35 : decode cX5_sum 35 = .ok (.iload_n 3, 1) := by decide +kernel
theorem dX5_sum_36 : decode cX5_sum 36 = .ok (.invokestatic 97, 3) := by decide +kernel
theorem dX5_sum_39 : decode cX5_sum 39 = .ok (.ifCond .ne 6, 3) := by decide +kernel
theorem dX5_sum_42 : decode cX5_sum 42 = .ok (.bipush (-2), 2) := by decide +kernel
theorem dX5_sum_44 : decode cX5_sum 44 = .ok (.ireturn, 1) := by decide +kernel
theorem dX5_sum_45 : decode cX5_sum 45 = .ok (.aload_n 0, 1) := by decide +kernel
theorem dX5_sum_46 : decode cX5_sum 46 = .ok (.iconst 0, 1) := by decide +kernel
theorem dX5_sum_47 : decode cX5_sum 47 = .ok (.iload_n 1, 1) := by decide +kernel
theorem dX5_sum_48 : decode cX5_sum 48 = .ok (.iload_n 2, 1) := by decide +kernel
theorem dX5_sum_49 : decode cX5_sum 49 = .ok (.iload_n 3, 1) := by decide +kernel
theorem dX5_sum_50 : decode cX5_sum 50 = .ok (.invokevirtual 77, 3) := by decide +kernel
theorem dX5_sum_53 : decode cX5_sum 53 = .ok (.ireturn, 1) := by decide +kernel
theorem dX5_next_0 : decode cX5_next 0 = .ok (.ldc2_w 105, 3) := by decide +kernel
theorem dX5_next_3 : decode cX5_next 3 = .ok (.lload_n 0, 1) := by decide +kernel
theorem dX5_next_4 : decode cX5_next 4 = .ok (.lmul, 1) := by decide +kernel
theorem dX5_next_5 : decode cX5_next 5 = .ok (.ldc2_w 107, 3) := by decide +kernel
theorem dX5_next_8 : decode cX5_next 8 = .ok (.ladd, 1) := by decide +kernel
theorem dX5_next_9 : decode cX5_next 9 = .ok (.ldc2_w 109, 3) := by decide +kernel
theorem dX5_next_12 : decode cX5_next 12 = .ok (.lrem, 1) := by decide +kernel
theorem dX5_next_13 : decode cX5_next 13 = .ok (.lreturn, 1) := by decide +kernel
theorem dX5_lotOf_0 : decode cX5_lotOf 0 = .ok (.lload_n 0, 1) := by decide +kernel
theorem dX5_lotOf_1 : decode cX5_lotOf 1 = .ok (.ldc2_w 111, 3) := by decide +kernel
theorem dX5_lotOf_4 : decode cX5_lotOf 4 = .ok (.ldiv, 1) := by decide +kernel
theorem dX5_lotOf_5 : decode cX5_lotOf 5 = .ok (.ldc2_w 113, 3) := by decide +kernel
theorem dX5_lotOf_8 : decode cX5_lotOf 8 = .ok (.lrem, 1) := by decide +kernel
theorem dX5_lotOf_9 : decode cX5_lotOf 9 = .ok (.l2i, 1) := by decide +kernel
theorem dX5_lotOf_10 : decode cX5_lotOf 10 = .ok (.ireturn, 1) := by decide +kernel
theorem dX5_ask_0 : decode cX5_ask 0 = .ok (.aload_n 0, 1) := by decide +kernel
theorem dX5_ask_1 : decode cX5_ask 1 = .ok (.iconst 0, 1) := by decide +kernel
theorem dX5_ask_2 : decode cX5_ask 2 = .ok (.putfield 45, 3) := by decide +kernel
theorem dX5_ask_5 : decode cX5_ask 5 = .ok (.aload_n 0, 1) := by decide +kernel
theorem dX5_ask_6 : decode cX5_ask 6 = .ok (.iload_n 1, 1) := by decide +kernel
theorem dX5_ask_7 : decode cX5_ask 7 = .ok (.invokevirtual 93, 3) := by decide +kernel
theorem dX5_ask_10 : decode cX5_ask 10 = .ok (.ifCond .ne 5, 3) := by decide +kernel
theorem dX5_ask_13 : decode cX5_ask 13 = .ok (.iconst (-1), 1) := by decide +kernel
theorem dX5_ask_14 : decode cX5_ask 14 = .ok (.ireturn, 1) := by decide +kernel
theorem dX5_ask_15 : decode cX5_ask 15 = .ok (.iload_n 2, 1) := by decide +kernel
theorem dX5_ask_16 : decode cX5_ask 16 = .ok (.i2l, 1) := by decide +kernel
theorem dX5_ask_17 : decode cX5_ask 17 = .ok (.lconst 1, 1) := by decide +kernel
theorem dX5_ask_18 : decode cX5_ask 18 = .ok (.ldc2_w 103, 3) := by decide +kernel
theorem dX5_ask_21 : decode cX5_ask 21 = .ok (.invokestatic 53, 3) := by decide +kernel
theorem dX5_ask_24 : decode cX5_ask 24 = .ok (.ifCond .eq 7, 3) := by decide +kernel
theorem dX5_ask_27 : decode cX5_ask 27 = .ok (.iload_n 3, 1) := by decide +kernel
theorem dX5_ask_28 : decode cX5_ask 28 = .ok (.ifCond .ge 6, 3) := by decide +kernel
theorem dX5_ask_31 : decode cX5_ask 31 = .ok (.bipush (-2), 2) := by decide +kernel
theorem dX5_ask_33 : decode cX5_ask 33 = .ok (.ireturn, 1) := by decide +kernel
theorem dX5_ask_34 : decode cX5_ask 34 = .ok (.aload_n 0, 1) := by decide +kernel
theorem dX5_ask_35 : decode cX5_ask 35 = .ok (.iconst 1, 1) := by decide +kernel
theorem dX5_ask_36 : decode cX5_ask 36 = .ok (.putfield 90, 3) := by decide +kernel
theorem dX5_ask_39 : decode cX5_ask 39 = .ok (.aload_n 0, 1) := by decide +kernel
theorem dX5_ask_40 : decode cX5_ask 40 = .ok (.iconst 0, 1) := by decide +kernel
theorem dX5_ask_41 : decode cX5_ask 41 = .ok (.putfield 84, 3) := by decide +kernel
theorem dX5_ask_44 : decode cX5_ask 44 = .ok (.aload_n 0, 1) := by decide +kernel
theorem dX5_ask_45 : decode cX5_ask 45 = .ok (.iload_n 1, 1) := by decide +kernel
theorem dX5_ask_46 : decode cX5_ask 46 = .ok (.putfield 71, 3) := by decide +kernel
theorem dX5_ask_49 : decode cX5_ask 49 = .ok (.aload_n 0, 1) := by decide +kernel
theorem dX5_ask_50 : decode cX5_ask 50 = .ok (.iload_n 2, 1) := by decide +kernel
theorem dX5_ask_51 : decode cX5_ask 51 = .ok (.putfield 48, 3) := by decide +kernel
theorem dX5_ask_54 : decode cX5_ask 54 = .ok (.aload_n 0, 1) := by decide +kernel
theorem dX5_ask_55 : decode cX5_ask 55 = .ok (.dup, 1) := by decide +kernel
theorem dX5_ask_56 : decode cX5_ask 56 = .ok (.getfield 115, 3) := by decide +kernel
theorem dX5_ask_59 : decode cX5_ask 59 = .ok (.iconst 1, 1) := by decide +kernel
theorem dX5_ask_60 : decode cX5_ask 60 = .ok (.iadd, 1) := by decide +kernel
theorem dX5_ask_61 : decode cX5_ask 61 = .ok (.putfield 115, 3) := by decide +kernel
theorem dX5_ask_64 : decode cX5_ask 64 = .ok (.iload_n 3, 1) := by decide +kernel
theorem dX5_ask_65 : decode cX5_ask 65 = .ok (.i2l, 1) := by decide +kernel
theorem dX5_ask_66 : decode cX5_ask 66 = .ok (.lstore 4, 2) := by decide +kernel
theorem dX5_ask_68 : decode cX5_ask 68 = .ok (.iconst 0, 1) := by decide +kernel
theorem dX5_ask_69 : decode cX5_ask 69 = .ok (.istore 6, 2) := by decide +kernel
theorem dX5_ask_71 : decode cX5_ask 71 = .ok (.iload 6, 2) := by decide +kernel
theorem dX5_ask_73 : decode cX5_ask 73 = .ok (.aload_n 0, 1) := by decide +kernel
theorem dX5_ask_74 : decode cX5_ask 74 = .ok (.getfield 7, 3) := by decide +kernel
theorem dX5_ask_77 : decode cX5_ask 77 = .ok (.if_icmp .ge 48, 3) := by decide +kernel
theorem dX5_ask_80 : decode cX5_ask 80 = .ok (.iconst 0, 1) := by decide +kernel
theorem dX5_ask_81 : decode cX5_ask 81 = .ok (.istore 7, 2) := by decide +kernel
theorem dX5_ask_83 : decode cX5_ask 83 = .ok (.iload 7, 2) := by decide +kernel
theorem dX5_ask_85 : decode cX5_ask 85 = .ok (.iload_n 2, 1) := by decide +kernel
theorem dX5_ask_86 : decode cX5_ask 86 = .ok (.if_icmp .ge 33, 3) := by decide +kernel
theorem dX5_ask_89 : decode cX5_ask 89 = .ok (.lload 4, 2) := by decide +kernel
theorem dX5_ask_91 : decode cX5_ask 91 = .ok (.invokestatic 118, 3) := by decide +kernel
theorem dX5_ask_94 : decode cX5_ask 94 = .ok (.lstore 4, 2) := by decide +kernel
theorem dX5_ask_96 : decode cX5_ask 96 = .ok (.aload_n 0, 1) := by decide +kernel
theorem dX5_ask_97 : decode cX5_ask 97 = .ok (.getfield 26, 3) := by decide +kernel
theorem dX5_ask_100 : decode cX5_ask 100 = .ok (.iconst 2, 1) := by decide +kernel
theorem dX5_ask_101 : decode cX5_ask 101 = .ok (.iload 6, 2) := by decide +kernel
theorem dX5_ask_103 : decode cX5_ask 103 = .ok (.imul, 1) := by decide +kernel
theorem dX5_ask_104 : decode cX5_ask 104 = .ok (.iload 7, 2) := by decide +kernel
theorem dX5_ask_106 : decode cX5_ask 106 = .ok (.iadd, 1) := by decide +kernel
theorem dX5_ask_107 : decode cX5_ask 107 = .ok (.lload 4, 2) := by decide +kernel
theorem dX5_ask_109 : decode cX5_ask 109 = .ok (.invokestatic 122, 3) := by decide +kernel
theorem dX5_ask_112 : decode cX5_ask 112 = .ok (.iastore, 1) := by decide +kernel
theorem dX5_ask_113 : decode cX5_ask 113 = .ok (.iinc 7 1, 3) := by decide +kernel
theorem dX5_ask_116 : decode cX5_ask 116 = .ok (.goto (-33), 3) := by decide +kernel
theorem dX5_ask_119 : decode cX5_ask 119 = .ok (.iinc 6 1, 3) := by decide +kernel
theorem dX5_ask_122 : decode cX5_ask 122 = .ok (.goto (-51), 3) := by decide +kernel
theorem dX5_ask_125 : decode cX5_ask 125 = .ok (.aload_n 0, 1) := by decide +kernel
theorem dX5_ask_126 : decode cX5_ask 126 = .ok (.invokevirtual 81, 3) := by decide +kernel
theorem dX5_ask_129 : decode cX5_ask 129 = .ok (.ireturn, 1) := by decide +kernel
theorem dX5_veil_0 : decode cX5_veil 0 = .ok (.aload_n 0, 1) := by decide +kernel
theorem dX5_veil_1 : decode cX5_veil 1 = .ok (.iconst 0, 1) := by decide +kernel
theorem dX5_veil_2 : decode cX5_veil 2 = .ok (.putfield 45, 3) := by decide +kernel
theorem dX5_veil_5 : decode cX5_veil 5 = .ok (.iload_n 1, 1) := by decide +kernel
theorem dX5_veil_6 : decode cX5_veil 6 = .ok (.ifCond .ge 12, 3) := by decide +kernel
theorem dX5_veil_9 : decode cX5_veil 9 = .ok (.iload_n 1, 1) := by decide +kernel
theorem dX5_veil_10 : decode cX5_veil 10 = .ok (.bipush (-9), 2) := by decide +kernel
theorem dX5_veil_12 : decode cX5_veil 12 = .ok (.if_icmp .eq 6, 3) := by decide +kernel
theorem dX5_veil_15 : decode cX5_veil 15 = .ok (.bipush (-2), 2) := by decide +kernel
theorem dX5_veil_17 : decode cX5_veil 17 = .ok (.ireturn, 1) := by decide +kernel
theorem dX5_veil_18 : decode cX5_veil 18 = .ok (.aload_n 0, 1) := by decide +kernel
theorem dX5_veil_19 : decode cX5_veil 19 = .ok (.getfield 90, 3) := by decide +kernel
theorem dX5_veil_22 : decode cX5_veil 22 = .ok (.ifCond .ne 6, 3) := by decide +kernel
theorem dX5_veil_25 : decode cX5_veil 25 = .ok (.bipush (-3), 2) := by decide +kernel
theorem dX5_veil_27 : decode cX5_veil 27 = .ok (.ireturn, 1) := by decide +kernel
theorem dX5_veil_28 : decode cX5_veil 28 = .ok (.aload_n 0, 1) := by decide +kernel
theorem dX5_veil_29 : decode cX5_veil 29 = .ok (.getfield 84, 3) := by decide +kernel
theorem dX5_veil_32 : decode cX5_veil 32 = .ok (.ifCond .eq 7, 3) := by decide +kernel
theorem dX5_veil_35 : decode cX5_veil 35 = .ok (.iconst 1, 1) := by decide +kernel
theorem dX5_veil_36 : decode cX5_veil 36 = .ok (.goto 4, 3) := by decide +kernel
theorem dX5_veil_39 : decode cX5_veil 39 = .ok (.iconst 0, 1) := by decide +kernel
theorem dX5_veil_40 : decode cX5_veil 40 = .ok (.istore_n 2, 1) := by decide +kernel
theorem dX5_veil_41 : decode cX5_veil 41 = .ok (.aload_n 0, 1) := by decide +kernel
theorem dX5_veil_42 : decode cX5_veil 42 = .ok (.iload_n 1, 1) := by decide +kernel
theorem dX5_veil_43 : decode cX5_veil 43 = .ok (.bipush (-9), 2) := by decide +kernel
theorem dX5_veil_45 : decode cX5_veil 45 = .ok (.if_icmp .eq 7, 3) := by decide +kernel
theorem dX5_veil_48 : decode cX5_veil 48 = .ok (.iconst 1, 1) := by decide +kernel
theorem dX5_veil_49 : decode cX5_veil 49 = .ok (.goto 4, 3) := by decide +kernel
theorem dX5_veil_52 : decode cX5_veil 52 = .ok (.iconst 0, 1) := by decide +kernel
theorem dX5_veil_53 : decode cX5_veil 53 = .ok (.putfield 84, 3) := by decide +kernel
theorem dX5_veil_56 : decode cX5_veil 56 = .ok (.iload_n 1, 1) := by decide +kernel
theorem dX5_veil_57 : decode cX5_veil 57 = .ok (.i2l, 1) := by decide +kernel
theorem dX5_veil_58 : decode cX5_veil 58 = .ok (.lstore_n 3, 1) := by decide +kernel
theorem dX5_veil_59 : decode cX5_veil 59 = .ok (.iconst 1, 1) := by decide +kernel
theorem dX5_veil_60 : decode cX5_veil 60 = .ok (.istore 5, 2) := by decide +kernel
theorem dX5_veil_62 : decode cX5_veil 62 = .ok (.iload 5, 2) := by decide +kernel
theorem dX5_veil_64 : decode cX5_veil 64 = .ok (.aload_n 0, 1) := by decide +kernel
theorem dX5_veil_65 : decode cX5_veil 65 = .ok (.invokevirtual 81, 3) := by decide +kernel
theorem dX5_veil_68 : decode cX5_veil 68 = .ok (.if_icmp .gt 32, 3) := by decide +kernel
theorem dX5_veil_71 : decode cX5_veil 71 = .ok (.aload_n 0, 1) := by decide +kernel
theorem dX5_veil_72 : decode cX5_veil 72 = .ok (.getfield 84, 3) := by decide +kernel
theorem dX5_veil_75 : decode cX5_veil 75 = .ok (.ifCond .eq 25, 3) := by decide +kernel
theorem dX5_veil_78 : decode cX5_veil 78 = .ok (.lload_n 3, 1) := by decide +kernel
theorem dX5_veil_79 : decode cX5_veil 79 = .ok (.invokestatic 118, 3) := by decide +kernel
theorem dX5_veil_82 : decode cX5_veil 82 = .ok (.lstore_n 3, 1) := by decide +kernel
theorem dX5_veil_83 : decode cX5_veil 83 = .ok (.aload_n 0, 1) := by decide +kernel
theorem dX5_veil_84 : decode cX5_veil 84 = .ok (.getfield 29, 3) := by decide +kernel
theorem dX5_veil_87 : decode cX5_veil 87 = .ok (.iload 5, 2) := by decide +kernel
theorem dX5_veil_89 : decode cX5_veil 89 = .ok (.lload_n 3, 1) := by decide +kernel
theorem dX5_veil_90 : decode cX5_veil 90 = .ok (.invokestatic 122, 3) := by decide +kernel
theorem dX5_veil_93 : decode cX5_veil 93 = .ok (.iastore, 1) := by decide +kernel
theorem dX5_veil_94 : decode cX5_veil 94 = .ok (.iinc 5 1, 3) := by decide +kernel
theorem dX5_veil_97 : decode cX5_veil 97 = .ok (.goto (-35), 3) := by decide +kernel
theorem dX5_veil_100 : decode cX5_veil 100 = .ok (.iload_n 2, 1) := by decide +kernel
theorem dX5_veil_101 : decode cX5_veil 101 = .ok (.ireturn, 1) := by decide +kernel
theorem dX5_point_0 : decode cX5_point 0 = .ok (.aload_n 0, 1) := by decide +kernel
theorem dX5_point_1 : decode cX5_point 1 = .ok (.iconst 0, 1) := by decide +kernel
theorem dX5_point_2 : decode cX5_point 2 = .ok (.putfield 45, 3) := by decide +kernel
theorem dX5_point_5 : decode cX5_point 5 = .ok (.iload_n 1, 1) := by decide +kernel
theorem dX5_point_6 : decode cX5_point 6 = .ok (.invokestatic 100, 3) := by decide +kernel
theorem dX5_point_9 : decode cX5_point 9 = .ok (.ifCond .ne 5, 3) := by decide +kernel
theorem dX5_point_12 : decode cX5_point 12 = .ok (.iconst (-1), 1) := by decide +kernel
theorem dX5_point_13 : decode cX5_point 13 = .ok (.ireturn, 1) := by decide +kernel
theorem dX5_point_14 : decode cX5_point 14 = .ok (.aload_n 0, 1) := by decide +kernel
theorem dX5_point_15 : decode cX5_point 15 = .ok (.getfield 90, 3) := by decide +kernel
theorem dX5_point_18 : decode cX5_point 18 = .ok (.ifCond .ne 6, 3) := by decide +kernel
theorem dX5_point_21 : decode cX5_point 21 = .ok (.bipush (-3), 2) := by decide +kernel
theorem dX5_point_23 : decode cX5_point 23 = .ok (.ireturn, 1) := by decide +kernel
theorem dX5_point_24 : decode cX5_point 24 = .ok (.iload_n 2, 1) := by decide +kernel
theorem dX5_point_25 : decode cX5_point 25 = .ok (.i2l, 1) := by decide +kernel
theorem dX5_point_26 : decode cX5_point 26 = .ok (.lconst 0, 1) := by decide +kernel
theorem dX5_point_27 : decode cX5_point 27 = .ok (.aload_n 0, 1) := by decide +kernel
theorem dX5_point_28 : decode cX5_point 28 = .ok (.getfield 7, 3) := by decide +kernel
theorem dX5_point_31 : decode cX5_point 31 = .ok (.iconst 1, 1) := by decide +kernel
theorem dX5_point_32 : decode cX5_point 32 = .ok (.isub, 1) := by decide +kernel
theorem dX5_point_33 : decode cX5_point 33 = .ok (.i2l, 1) := by decide +kernel
theorem dX5_point_34 : decode cX5_point 34 = .ok (.invokestatic 53, 3) := by decide +kernel
theorem dX5_point_37 : decode cX5_point 37 = .ok (.ifCond .eq 12, 3) := by decide +kernel
theorem dX5_point_40 : decode cX5_point 40 = .ok (.aload_n 0, 1) := by decide +kernel
theorem dX5_point_41 : decode cX5_point 41 = .ok (.iload_n 1, 1) := by decide +kernel
theorem dX5_point_42 : decode cX5_point 42 = .ok (.iload_n 2, 1) := by decide +kernel
theorem dX5_point_43 : decode cX5_point 43 = .ok (.invokevirtual 74, 3) := by decide +kernel
theorem dX5_point_46 : decode cX5_point 46 = .ok (.goto 5, 3) := by decide +kernel
theorem dX5_point_49 : decode cX5_point 49 = .ok (.bipush (-2), 2) := by decide +kernel
theorem dX5_point_51 : decode cX5_point 51 = .ok (.ireturn, 1) := by decide +kernel
theorem dX5_answer_0 : decode cX5_answer 0 = .ok (.aload_n 0, 1) := by decide +kernel
theorem dX5_answer_1 : decode cX5_answer 1 = .ok (.iconst 0, 1) := by decide +kernel
theorem dX5_answer_2 : decode cX5_answer 2 = .ok (.putfield 45, 3) := by decide +kernel
theorem dX5_answer_5 : decode cX5_answer 5 = .ok (.iload_n 1, 1) := by decide +kernel
theorem dX5_answer_6 : decode cX5_answer 6 = .ok (.invokestatic 100, 3) := by decide +kernel
theorem dX5_answer_9 : decode cX5_answer 9 = .ok (.ifCond .ne 7, 3) := by decide +kernel
theorem dX5_answer_12 : decode cX5_answer 12 = .ok (.iconst (-1), 1) := by decide +kernel
theorem dX5_answer_13 : decode cX5_answer 13 = .ok (.goto 35, 3) := by decide +kernel
theorem dX5_answer_16 : decode cX5_answer 16 = .ok (.aload_n 0, 1) := by decide +kernel
theorem dX5_answer_17 : decode cX5_answer 17 = .ok (.getfield 90, 3) := by decide +kernel
theorem dX5_answer_20 : decode cX5_answer 20 = .ok (.ifCond .ne 8, 3) := by decide +kernel
theorem dX5_answer_23 : decode cX5_answer 23 = .ok (.bipush (-3), 2) := by decide +kernel
theorem dX5_answer_25 : decode cX5_answer 25 = .ok (.goto 23, 3) := by decide +kernel
theorem dX5_answer_28 : decode cX5_answer 28 = .ok (.aload_n 0, 1) := by decide +kernel
theorem dX5_answer_29 : decode cX5_answer 29 = .ok (.getfield 17, 3) := by decide +kernel
theorem dX5_answer_32 : decode cX5_answer 32 = .ok (.iload_n 1, 1) := by decide +kernel
theorem dX5_answer_33 : decode cX5_answer 33 = .ok (.iaload, 1) := by decide +kernel
theorem dX5_answer_34 : decode cX5_answer 34 = .ok (.iconst 3, 1) := by decide +kernel
theorem dX5_answer_35 : decode cX5_answer 35 = .ok (.if_icmp .ne 8, 3) := by decide +kernel
theorem dX5_answer_38 : decode cX5_answer 38 = .ok (.bipush (-9), 2) := by decide +kernel
theorem dX5_answer_40 : decode cX5_answer 40 = .ok (.goto 8, 3) := by decide +kernel
theorem dX5_answer_43 : decode cX5_answer 43 = .ok (.aload_n 0, 1) := by decide +kernel
theorem dX5_answer_44 : decode cX5_answer 44 = .ok (.iload_n 1, 1) := by decide +kernel
theorem dX5_answer_45 : decode cX5_answer 45 = .ok (.invokevirtual 126, 3) := by decide +kernel
theorem dX5_answer_48 : decode cX5_answer 48 = .ok (.ireturn, 1) := by decide +kernel
theorem dX5_needed_0 : decode cX5_needed 0 = .ok (.aload_n 0, 1) := by decide +kernel
theorem dX5_needed_1 : decode cX5_needed 1 = .ok (.iconst 0, 1) := by decide +kernel
theorem dX5_needed_2 : decode cX5_needed 2 = .ok (.putfield 45, 3) := by decide +kernel
theorem dX5_needed_5 : decode cX5_needed 5 = .ok (.iload_n 1, 1) := by decide +kernel
theorem dX5_needed_6 : decode cX5_needed 6 = .ok (.i2l, 1) := by decide +kernel
theorem dX5_needed_7 : decode cX5_needed 7 = .ok (.lconst 1, 1) := by decide +kernel
theorem dX5_needed_8 : decode cX5_needed 8 = .ok (.ldc2_w 88, 3) := by decide +kernel
theorem dX5_needed_11 : decode cX5_needed 11 = .ok (.invokestatic 53, 3) := by decide +kernel
theorem dX5_needed_14 : decode cX5_needed 14 = .ok (.ifCond .eq 27, 3) := by decide +kernel
theorem dX5_needed_17 : decode cX5_needed 17 = .ok (.iload_n 2, 1) := by decide +kernel
theorem dX5_needed_18 : decode cX5_needed 18 = .ok (.i2l, 1) := by decide +kernel
theorem dX5_needed_19 : decode cX5_needed 19 = .ok (.lconst 1, 1) := by decide +kernel
theorem dX5_needed_20 : decode cX5_needed 20 = .ok (.ldc2_w 103, 3) := by decide +kernel
theorem dX5_needed_23 : decode cX5_needed 23 = .ok (.invokestatic 53, 3) := by decide +kernel
theorem dX5_needed_26 : decode cX5_needed 26 = .ok (.ifCond .eq 15, 3) := by decide +kernel
theorem dX5_needed_29 : decode cX5_needed 29 = .ok (.iload_n 3, 1) := by decide +kernel
theorem dX5_needed_30 : decode cX5_needed 30 = .ok (.i2l, 1) := by decide +kernel
theorem dX5_needed_31 : decode cX5_needed 31 = .ok (.lconst 0, 1) := by decide +kernel
theorem dX5_needed_32 : decode cX5_needed 32 = .ok (.ldc2_w 129, 3) := by decide +kernel
theorem dX5_needed_35 : decode cX5_needed 35 = .ok (.invokestatic 53, 3) := by decide +kernel
theorem dX5_needed_38 : decode cX5_needed 38 = .ok (.ifCond .ne 8, 3) := by decide +kernel
theorem dX5_needed_41 : decode cX5_needed 41 = .ok (.bipush (-2), 2) := by decide +kernel
theorem dX5_needed_43 : decode cX5_needed 43 = .ok (.goto 12, 3) := by decide +kernel
theorem dX5_needed_46 : decode cX5_needed 46 = .ok (.iload_n 1, 1) := by decide +kernel
theorem dX5_needed_47 : decode cX5_needed 47 = .ok (.iload_n 2, 1) := by decide +kernel
theorem dX5_needed_48 : decode cX5_needed 48 = .ok (.imul, 1) := by decide +kernel
theorem dX5_needed_49 : decode cX5_needed 49 = .ok (.iconst 1, 1) := by decide +kernel
theorem dX5_needed_50 : decode cX5_needed 50 = .ok (.iadd, 1) := by decide +kernel
theorem dX5_needed_51 : decode cX5_needed 51 = .ok (.iconst 2, 1) := by decide +kernel
theorem dX5_needed_52 : decode cX5_needed 52 = .ok (.iload_n 3, 1) := by decide +kernel
theorem dX5_needed_53 : decode cX5_needed 53 = .ok (.imul, 1) := by decide +kernel
theorem dX5_needed_54 : decode cX5_needed 54 = .ok (.iadd, 1) := by decide +kernel
theorem dX5_needed_55 : decode cX5_needed 55 = .ok (.ireturn, 1) := by decide +kernel
theorem dX5_hear_0 : decode cX5_hear 0 = .ok (.aload_n 0, 1) := by decide +kernel
theorem dX5_hear_1 : decode cX5_hear 1 = .ok (.iconst 0, 1) := by decide +kernel
theorem dX5_hear_2 : decode cX5_hear 2 = .ok (.putfield 131, 3) := by decide +kernel
theorem dX5_hear_5 : decode cX5_hear 5 = .ok (.iconst 1, 1) := by decide +kernel
theorem dX5_hear_6 : decode cX5_hear 6 = .ok (.istore_n 2, 1) := by decide +kernel
theorem dX5_hear_7 : decode cX5_hear 7 = .ok (.iload_n 2, 1) := by decide +kernel
theorem dX5_hear_8 : decode cX5_hear 8 = .ok (.iload_n 1, 1) := by decide +kernel
theorem dX5_hear_9 : decode cX5_hear 9 = .ok (.if_icmp .gt 53, 3) := by decide +kernel
theorem dX5_hear_12 : decode cX5_hear 12 = .ok (.aload_n 0, 1) := by decide +kernel
theorem dX5_hear_13 : decode cX5_hear 13 = .ok (.getfield 17, 3) := by decide +kernel
theorem dX5_hear_16 : decode cX5_hear 16 = .ok (.iload_n 2, 1) := by decide +kernel
theorem dX5_hear_17 : decode cX5_hear 17 = .ok (.iaload, 1) := by decide +kernel
theorem dX5_hear_18 : decode cX5_hear 18 = .ok (.iconst 3, 1) := by decide +kernel
theorem dX5_hear_19 : decode cX5_hear 19 = .ok (.if_icmp .eq 37, 3) := by decide +kernel
theorem dX5_hear_22 : decode cX5_hear 22 = .ok (.aload_n 0, 1) := by decide +kernel
theorem dX5_hear_23 : decode cX5_hear 23 = .ok (.getfield 36, 3) := by decide +kernel
theorem dX5_hear_26 : decode cX5_hear 26 = .ok (.aload_n 0, 1) := by decide +kernel
theorem dX5_hear_27 : decode cX5_hear 27 = .ok (.getfield 131, 3) := by decide +kernel
theorem dX5_hear_30 : decode cX5_hear 30 = .ok (.iload_n 2, 1) := by decide +kernel
theorem dX5_hear_31 : decode cX5_hear 31 = .ok (.iastore, 1) := by decide +kernel
theorem dX5_hear_32 : decode cX5_hear 32 = .ok (.aload_n 0, 1) := by decide +kernel
theorem dX5_hear_33 : decode cX5_hear 33 = .ok (.getfield 39, 3) := by decide +kernel
theorem dX5_hear_36 : decode cX5_hear 36 = .ok (.aload_n 0, 1) := by decide +kernel
theorem dX5_hear_37 : decode cX5_hear 37 = .ok (.getfield 131, 3) := by decide +kernel
theorem dX5_hear_40 : decode cX5_hear 40 = .ok (.aload_n 0, 1) := by decide +kernel
theorem dX5_hear_41 : decode cX5_hear 41 = .ok (.iload_n 2, 1) := by decide +kernel
theorem dX5_hear_42 : decode cX5_hear 42 = .ok (.invokevirtual 126, 3) := by decide +kernel
theorem dX5_hear_45 : decode cX5_hear 45 = .ok (.iastore, 1) := by decide +kernel
theorem dX5_hear_46 : decode cX5_hear 46 = .ok (.aload_n 0, 1) := by decide +kernel
theorem dX5_hear_47 : decode cX5_hear 47 = .ok (.dup, 1) := by decide +kernel
theorem dX5_hear_48 : decode cX5_hear 48 = .ok (.getfield 131, 3) := by decide +kernel
theorem dX5_hear_51 : decode cX5_hear 51 = .ok (.iconst 1, 1) := by decide +kernel
theorem dX5_hear_52 : decode cX5_hear 52 = .ok (.iadd, 1) := by decide +kernel
theorem dX5_hear_53 : decode cX5_hear 53 = .ok (.putfield 131, 3) := by decide +kernel
theorem dX5_hear_56 : decode cX5_hear 56 = .ok (.iinc 2 1, 3) := by decide +kernel
theorem dX5_hear_59 : decode cX5_hear 59 = .ok (.goto (-52), 3) := by decide +kernel
theorem dX5_hear_62 : decode cX5_hear 62 = .ok (.return_, 1) := by decide +kernel
theorem dX5_curveAt_0 : decode cX5_curveAt 0 = .ok (.iconst 0, 1) := by decide +kernel
theorem dX5_curveAt_1 : decode cX5_curveAt 1 = .ok (.istore_n 2, 1) := by decide +kernel
theorem dX5_curveAt_2 : decode cX5_curveAt 2 = .ok (.iconst 0, 1) := by decide +kernel
theorem dX5_curveAt_3 : decode cX5_curveAt 3 = .ok (.istore_n 3, 1) := by decide +kernel
theorem dX5_curveAt_4 : decode cX5_curveAt 4 = .ok (.iload_n 3, 1) := by decide +kernel
theorem dX5_curveAt_5 : decode cX5_curveAt 5 = .ok (.aload_n 0, 1) := by decide +kernel
theorem dX5_curveAt_6 : decode cX5_curveAt 6 = .ok (.invokevirtual 81, 3) := by decide +kernel
theorem dX5_curveAt_9 : decode cX5_curveAt 9 = .ok (.if_icmp .gt 123, 3) := by decide +kernel
theorem dX5_curveAt_12 : decode cX5_curveAt 12 = .ok (.aload_n 0, 1) := by decide +kernel
theorem dX5_curveAt_13 : decode cX5_curveAt 13 = .ok (.getfield 39, 3) := by decide +kernel
theorem dX5_curveAt_16 : decode cX5_curveAt 16 = .ok (.aload_n 0, 1) := by decide +kernel
theorem dX5_curveAt_17 : decode cX5_curveAt 17 = .ok (.getfield 42, 3) := by decide +kernel
theorem dX5_curveAt_20 : decode cX5_curveAt 20 = .ok (.iload_n 3, 1) := by decide +kernel
theorem dX5_curveAt_21 : decode cX5_curveAt 21 = .ok (.iaload, 1) := by decide +kernel
theorem dX5_curveAt_22 : decode cX5_curveAt 22 = .ok (.iaload, 1) := by decide +kernel
theorem dX5_curveAt_23 : decode cX5_curveAt 23 = .ok (.istore 4, 2) := by decide +kernel
theorem dX5_curveAt_25 : decode cX5_curveAt 25 = .ok (.iconst 1, 1) := by decide +kernel
theorem dX5_curveAt_26 : decode cX5_curveAt 26 = .ok (.istore 5, 2) := by decide +kernel
theorem dX5_curveAt_28 : decode cX5_curveAt 28 = .ok (.iconst 0, 1) := by decide +kernel
theorem dX5_curveAt_29 : decode cX5_curveAt 29 = .ok (.istore 6, 2) := by decide +kernel
theorem dX5_curveAt_31 : decode cX5_curveAt 31 = .ok (.iload 6, 2) := by decide +kernel
theorem dX5_curveAt_33 : decode cX5_curveAt 33 = .ok (.aload_n 0, 1) := by decide +kernel
theorem dX5_curveAt_34 : decode cX5_curveAt 34 = .ok (.invokevirtual 81, 3) := by decide +kernel
theorem dX5_curveAt_37 : decode cX5_curveAt 37 = .ok (.if_icmp .gt 75, 3) := by decide +kernel
theorem dX5_curveAt_40 : decode cX5_curveAt 40 = .ok (.iload 6, 2) := by decide +kernel
theorem dX5_curveAt_42 : decode cX5_curveAt 42 = .ok (.iload_n 3, 1) := by decide +kernel
theorem dX5_curveAt_43 : decode cX5_curveAt 43 = .ok (.if_icmp .eq 63, 3) := by decide +kernel
theorem dX5_curveAt_46 : decode cX5_curveAt 46 = .ok (.iload 4, 2) := by decide +kernel
theorem dX5_curveAt_48 : decode cX5_curveAt 48 = .ok (.iload_n 1, 1) := by decide +kernel
theorem dX5_curveAt_49 : decode cX5_curveAt 49 = .ok (.aload_n 0, 1) := by decide +kernel
theorem dX5_curveAt_50 : decode cX5_curveAt 50 = .ok (.getfield 36, 3) := by decide +kernel
theorem dX5_curveAt_53 : decode cX5_curveAt 53 = .ok (.aload_n 0, 1) := by decide +kernel
theorem dX5_curveAt_54 : decode cX5_curveAt 54 = .ok (.getfield 42, 3) := by decide +kernel
theorem dX5_curveAt_57 : decode cX5_curveAt 57 = .ok (.iload 6, 2) := by decide +kernel
theorem dX5_curveAt_59 : decode cX5_curveAt 59 = .ok (.iaload, 1) := by decide +kernel
theorem dX5_curveAt_60 : decode cX5_curveAt 60 = .ok (.iaload, 1) := by decide +kernel
theorem dX5_curveAt_61 : decode cX5_curveAt 61 = .ok (.isub, 1) := by decide +kernel
theorem dX5_curveAt_62 : decode cX5_curveAt 62 = .ok (.invokestatic 67, 3) := by decide +kernel
theorem dX5_curveAt_65 : decode cX5_curveAt 65 = .ok (.imul, 1) := by decide +kernel
theorem dX5_curveAt_66 : decode cX5_curveAt 66 = .ok (.invokestatic 67, 3) := by decide +kernel
theorem dX5_curveAt_69 : decode cX5_curveAt 69 = .ok (.istore 4, 2) := by decide +kernel
theorem dX5_curveAt_71 : decode cX5_curveAt 71 = .ok (.iload 5, 2) := by decide +kernel
theorem dX5_curveAt_73 : decode cX5_curveAt 73 = .ok (.aload_n 0, 1) := by decide +kernel
theorem dX5_curveAt_74 : decode cX5_curveAt 74 = .ok (.getfield 36, 3) := by decide +kernel
theorem dX5_curveAt_77 : decode cX5_curveAt 77 = .ok (.aload_n 0, 1) := by decide +kernel
theorem dX5_curveAt_78 : decode cX5_curveAt 78 = .ok (.getfield 42, 3) := by decide +kernel
theorem dX5_curveAt_81 : decode cX5_curveAt 81 = .ok (.iload_n 3, 1) := by decide +kernel
theorem dX5_curveAt_82 : decode cX5_curveAt 82 = .ok (.iaload, 1) := by decide +kernel
theorem dX5_curveAt_83 : decode cX5_curveAt 83 = .ok (.iaload, 1) := by decide +kernel
theorem dX5_curveAt_84 : decode cX5_curveAt 84 = .ok (.aload_n 0, 1) := by decide +kernel
theorem dX5_curveAt_85 : decode cX5_curveAt 85 = .ok (.getfield 36, 3) := by decide +kernel
theorem dX5_curveAt_88 : decode cX5_curveAt 88 = .ok (.aload_n 0, 1) := by decide +kernel
theorem dX5_curveAt_89 : decode cX5_curveAt 89 = .ok (.getfield 42, 3) := by decide +kernel
theorem dX5_curveAt_92 : decode cX5_curveAt 92 = .ok (.iload 6, 2) := by decide +kernel
theorem dX5_curveAt_94 : decode cX5_curveAt 94 = .ok (.iaload, 1) := by decide +kernel
theorem dX5_curveAt_95 : decode cX5_curveAt 95 = .ok (.iaload, 1) := by decide +kernel
theorem dX5_curveAt_96 : decode cX5_curveAt 96 = .ok (.isub, 1) := by decide +kernel
theorem dX5_curveAt_97 : decode cX5_curveAt 97 = .ok (.invokestatic 67, 3) := by decide +kernel
theorem dX5_curveAt_100 : decode cX5_curveAt 100 = .ok (.imul, 1) := by decide +kernel
theorem dX5_curveAt_101 : decode cX5_curveAt 101 = .ok (.invokestatic 67, 3) := by decide +kernel
theorem dX5_curveAt_104 : decode cX5_curveAt 104 = .ok (.istore 5, 2) := by decide +kernel
theorem dX5_curveAt_106 : decode cX5_curveAt 106 = .ok (.iinc 6 1, 3) := by decide +kernel
theorem dX5_curveAt_109 : decode cX5_curveAt 109 = .ok (.goto (-78), 3) := by decide +kernel
theorem dX5_curveAt_112 : decode cX5_curveAt 112 = .ok (.iload_n 2, 1) := by decide +kernel
theorem dX5_curveAt_113 : decode cX5_curveAt 113 = .ok (.iload 4, 2) := by decide +kernel
theorem dX5_curveAt_115 : decode cX5_curveAt 115 = .ok (.iload 5, 2) := by decide +kernel
theorem dX5_curveAt_117 : decode cX5_curveAt 117 = .ok (.invokestatic 134, 3) := by decide +kernel
theorem dX5_curveAt_120 : decode cX5_curveAt 120 = .ok (.imul, 1) := by decide +kernel
theorem dX5_curveAt_121 : decode cX5_curveAt 121 = .ok (.iadd, 1) := by decide +kernel
theorem dX5_curveAt_122 : decode cX5_curveAt 122 = .ok (.invokestatic 67, 3) := by decide +kernel
theorem dX5_curveAt_125 : decode cX5_curveAt 125 = .ok (.istore_n 2, 1) := by decide +kernel
theorem dX5_curveAt_126 : decode cX5_curveAt 126 = .ok (.iinc 3 1, 3) := by decide +kernel
theorem dX5_curveAt_129 : decode cX5_curveAt 129 = .ok (.goto (-125), 3) := by decide +kernel
theorem dX5_curveAt_132 : decode cX5_curveAt 132 = .ok (.iload_n 2, 1) := by decide +kernel
theorem dX5_curveAt_133 : decode cX5_curveAt 133 = .ok (.ireturn, 1) := by decide +kernel
theorem dX5_onCurve_0 : decode cX5_onCurve 0 = .ok (.iconst 0, 1) := by decide +kernel
theorem dX5_onCurve_1 : decode cX5_onCurve 1 = .ok (.istore_n 1, 1) := by decide +kernel
theorem dX5_onCurve_2 : decode cX5_onCurve 2 = .ok (.iconst 0, 1) := by decide +kernel
theorem dX5_onCurve_3 : decode cX5_onCurve 3 = .ok (.istore_n 2, 1) := by decide +kernel
theorem dX5_onCurve_4 : decode cX5_onCurve 4 = .ok (.iload_n 2, 1) := by decide +kernel
theorem dX5_onCurve_5 : decode cX5_onCurve 5 = .ok (.aload_n 0, 1) := by decide +kernel
theorem dX5_onCurve_6 : decode cX5_onCurve 6 = .ok (.getfield 131, 3) := by decide +kernel
theorem dX5_onCurve_9 : decode cX5_onCurve 9 = .ok (.if_icmp .ge 36, 3) := by decide +kernel
theorem dX5_onCurve_12 : decode cX5_onCurve 12 = .ok (.iload_n 1, 1) := by decide +kernel
theorem dX5_onCurve_13 : decode cX5_onCurve 13 = .ok (.aload_n 0, 1) := by decide +kernel
theorem dX5_onCurve_14 : decode cX5_onCurve 14 = .ok (.aload_n 0, 1) := by decide +kernel
theorem dX5_onCurve_15 : decode cX5_onCurve 15 = .ok (.getfield 36, 3) := by decide +kernel
theorem dX5_onCurve_18 : decode cX5_onCurve 18 = .ok (.iload_n 2, 1) := by decide +kernel
theorem dX5_onCurve_19 : decode cX5_onCurve 19 = .ok (.iaload, 1) := by decide +kernel
theorem dX5_onCurve_20 : decode cX5_onCurve 20 = .ok (.invokevirtual 137, 3) := by decide +kernel
theorem dX5_onCurve_23 : decode cX5_onCurve 23 = .ok (.aload_n 0, 1) := by decide +kernel
theorem dX5_onCurve_24 : decode cX5_onCurve 24 = .ok (.getfield 39, 3) := by decide +kernel
theorem dX5_onCurve_27 : decode cX5_onCurve 27 = .ok (.iload_n 2, 1) := by decide +kernel
theorem dX5_onCurve_28 : decode cX5_onCurve 28 = .ok (.iaload, 1) := by decide +kernel
theorem dX5_onCurve_29 : decode cX5_onCurve 29 = .ok (.if_icmp .ne 7, 3) := by decide +kernel
theorem dX5_onCurve_32 : decode cX5_onCurve 32 = .ok (.iconst 1, 1) := by decide +kernel
theorem dX5_onCurve_33 : decode cX5_onCurve 33 = .ok (.goto 4, 3) := by decide +kernel
theorem dX5_onCurve_36 : decode cX5_onCurve 36 = .ok (.iconst 0, 1) := by decide +kernel
theorem dX5_onCurve_37 : decode cX5_onCurve 37 = .ok (.iadd, 1) := by decide +kernel
theorem dX5_onCurve_38 : decode cX5_onCurve 38 = .ok (.istore_n 1, 1) := by decide +kernel
theorem dX5_onCurve_39 : decode cX5_onCurve 39 = .ok (.iinc 2 1, 3) := by decide +kernel
theorem dX5_onCurve_42 : decode cX5_onCurve 42 = .ok (.goto (-38), 3) := by decide +kernel
theorem dX5_onCurve_45 : decode cX5_onCurve 45 = .ok (.iload_n 1, 1) := by decide +kernel
theorem dX5_onCurve_46 : decode cX5_onCurve 46 = .ok (.ireturn, 1) := by decide +kernel
theorem dX5_choose_0 : decode cX5_choose 0 = .ok (.aload_n 0, 1) := by decide +kernel
theorem dX5_choose_1 : decode cX5_choose 1 = .ok (.invokevirtual 81, 3) := by decide +kernel
theorem dX5_choose_4 : decode cX5_choose 4 = .ok (.istore_n 1, 1) := by decide +kernel
theorem dX5_choose_5 : decode cX5_choose 5 = .ok (.iload_n 1, 1) := by decide +kernel
theorem dX5_choose_6 : decode cX5_choose 6 = .ok (.istore_n 2, 1) := by decide +kernel
theorem dX5_choose_7 : decode cX5_choose 7 = .ok (.iload_n 2, 1) := by decide +kernel
theorem dX5_choose_8 : decode cX5_choose 8 = .ok (.ifCond .lt 28, 3) := by decide +kernel
theorem dX5_choose_11 : decode cX5_choose 11 = .ok (.aload_n 0, 1) := by decide +kernel
theorem dX5_choose_12 : decode cX5_choose 12 = .ok (.getfield 42, 3) := by decide +kernel
theorem dX5_choose_15 : decode cX5_choose 15 = .ok (.iload_n 2, 1) := by decide +kernel
theorem dX5_choose_16 : decode cX5_choose 16 = .ok (.iaload, 1) := by decide +kernel
theorem dX5_choose_17 : decode cX5_choose 17 = .ok (.aload_n 0, 1) := by decide +kernel
theorem dX5_choose_18 : decode cX5_choose 18 = .ok (.getfield 131, 3) := by decide +kernel
theorem dX5_choose_21 : decode cX5_choose 21 = .ok (.iconst 1, 1) := by decide +kernel
theorem dX5_choose_22 : decode cX5_choose 22 = .ok (.isub, 1) := by decide +kernel
theorem dX5_choose_23 : decode cX5_choose 23 = .ok (.iload_n 1, 1) := by decide +kernel
theorem dX5_choose_24 : decode cX5_choose 24 = .ok (.iload_n 2, 1) := by decide +kernel
theorem dX5_choose_25 : decode cX5_choose 25 = .ok (.isub, 1) := by decide +kernel
theorem dX5_choose_26 : decode cX5_choose 26 = .ok (.isub, 1) := by decide +kernel
theorem dX5_choose_27 : decode cX5_choose 27 = .ok (.if_icmp .ne 9, 3) := by decide +kernel
theorem dX5_choose_30 : decode cX5_choose 30 = .ok (.iinc 2 (-1), 3) := by decide +kernel
theorem dX5_choose_33 : decode cX5_choose 33 = .ok (.goto (-26), 3) := by decide +kernel
theorem dX5_choose_36 : decode cX5_choose 36 = .ok (.iload_n 2, 1) := by decide +kernel
theorem dX5_choose_37 : decode cX5_choose 37 = .ok (.ifCond .ge 5, 3) := by decide +kernel
theorem dX5_choose_40 : decode cX5_choose 40 = .ok (.iconst 0, 1) := by decide +kernel
theorem dX5_choose_41 : decode cX5_choose 41 = .ok (.ireturn, 1) := by decide +kernel
theorem dX5_choose_42 : decode cX5_choose 42 = .ok (.aload_n 0, 1) := by decide +kernel
theorem dX5_choose_43 : decode cX5_choose 43 = .ok (.getfield 42, 3) := by decide +kernel
theorem dX5_choose_46 : decode cX5_choose 46 = .ok (.iload_n 2, 1) := by decide +kernel
theorem dX5_choose_47 : decode cX5_choose 47 = .ok (.dup2, 1) := by decide +kernel
theorem dX5_choose_48 : decode cX5_choose 48 = .ok (.iaload, 1) := by decide +kernel
theorem dX5_choose_49 : decode cX5_choose 49 = .ok (.iconst 1, 1) := by decide +kernel
theorem dX5_choose_50 : decode cX5_choose 50 = .ok (.iadd, 1) := by decide +kernel
theorem dX5_choose_51 : decode cX5_choose 51 = .ok (.iastore, 1) := by decide +kernel
theorem dX5_choose_52 : decode cX5_choose 52 = .ok (.iload_n 2, 1) := by decide +kernel
theorem dX5_choose_53 : decode cX5_choose 53 = .ok (.iconst 1, 1) := by decide +kernel
theorem dX5_choose_54 : decode cX5_choose 54 = .ok (.iadd, 1) := by decide +kernel
theorem dX5_choose_55 : decode cX5_choose 55 = .ok (.istore_n 3, 1) := by decide +kernel
theorem dX5_choose_56 : decode cX5_choose 56 = .ok (.iload_n 3, 1) := by decide +kernel
theorem dX5_choose_57 : decode cX5_choose 57 = .ok (.iload_n 1, 1) := by decide +kernel
theorem dX5_choose_58 : decode cX5_choose 58 = .ok (.if_icmp .gt 25, 3) := by decide +kernel
theorem dX5_choose_61 : decode cX5_choose 61 = .ok (.aload_n 0, 1) := by decide +kernel
theorem dX5_choose_62 : decode cX5_choose 62 = .ok (.getfield 42, 3) := by decide +kernel
theorem dX5_choose_65 : decode cX5_choose 65 = .ok (.iload_n 3, 1) := by decide +kernel
theorem dX5_choose_66 : decode cX5_choose 66 = .ok (.aload_n 0, 1) := by decide +kernel
theorem dX5_choose_67 : decode cX5_choose 67 = .ok (.getfield 42, 3) := by decide +kernel
theorem dX5_choose_70 : decode cX5_choose 70 = .ok (.iload_n 3, 1) := by decide +kernel
theorem dX5_choose_71 : decode cX5_choose 71 = .ok (.iconst 1, 1) := by decide +kernel
theorem dX5_choose_72 : decode cX5_choose 72 = .ok (.isub, 1) := by decide +kernel
theorem dX5_choose_73 : decode cX5_choose 73 = .ok (.iaload, 1) := by decide +kernel
theorem dX5_choose_74 : decode cX5_choose 74 = .ok (.iconst 1, 1) := by decide +kernel
theorem dX5_choose_75 : decode cX5_choose 75 = .ok (.iadd, 1) := by decide +kernel
theorem dX5_choose_76 : decode cX5_choose 76 = .ok (.iastore, 1) := by decide +kernel
theorem dX5_choose_77 : decode cX5_choose 77 = .ok (.iinc 3 1, 3) := by decide +kernel
theorem dX5_choose_80 : decode cX5_choose 80 = .ok (.goto (-24), 3) := by decide +kernel
theorem dX5_choose_83 : decode cX5_choose 83 = .ok (.iconst 1, 1) := by decide +kernel
theorem dX5_choose_84 : decode cX5_choose 84 = .ok (.ireturn, 1) := by decide +kernel
theorem dX5_first_0 : decode cX5_first 0 = .ok (.iconst 0, 1) := by decide +kernel
theorem dX5_first_1 : decode cX5_first 1 = .ok (.istore_n 1, 1) := by decide +kernel
theorem dX5_first_2 : decode cX5_first 2 = .ok (.iload_n 1, 1) := by decide +kernel
theorem dX5_first_3 : decode cX5_first 3 = .ok (.aload_n 0, 1) := by decide +kernel
theorem dX5_first_4 : decode cX5_first 4 = .ok (.invokevirtual 81, 3) := by decide +kernel
theorem dX5_first_7 : decode cX5_first 7 = .ok (.if_icmp .gt 16, 3) := by decide +kernel
theorem dX5_first_10 : decode cX5_first 10 = .ok (.aload_n 0, 1) := by decide +kernel
theorem dX5_first_11 : decode cX5_first 11 = .ok (.getfield 42, 3) := by decide +kernel
theorem dX5_first_14 : decode cX5_first 14 = .ok (.iload_n 1, 1) := by decide +kernel
theorem dX5_first_15 : decode cX5_first 15 = .ok (.iload_n 1, 1) := by decide +kernel
theorem dX5_first_16 : decode cX5_first 16 = .ok (.iastore, 1) := by decide +kernel
theorem dX5_first_17 : decode cX5_first 17 = .ok (.iinc 1 1, 3) := by decide +kernel
theorem dX5_first_20 : decode cX5_first 20 = .ok (.goto (-18), 3) := by decide +kernel
theorem dX5_first_23 : decode cX5_first 23 = .ok (.return_, 1) := by decide +kernel
theorem dX5_fetch_0 : decode cX5_fetch 0 = .ok (.aload_n 0, 1) := by decide +kernel
theorem dX5_fetch_1 : decode cX5_fetch 1 = .ok (.iconst 0, 1) := by decide +kernel
theorem dX5_fetch_2 : decode cX5_fetch 2 = .ok (.putfield 45, 3) := by decide +kernel
theorem dX5_fetch_5 : decode cX5_fetch 5 = .ok (.iload_n 1, 1) := by decide +kernel
theorem dX5_fetch_6 : decode cX5_fetch 6 = .ok (.invokestatic 100, 3) := by decide +kernel
theorem dX5_fetch_9 : decode cX5_fetch 9 = .ok (.ifCond .ne 6, 3) := by decide +kernel
theorem dX5_fetch_12 : decode cX5_fetch 12 = .ok (.bipush (-2), 2) := by decide +kernel
theorem dX5_fetch_14 : decode cX5_fetch 14 = .ok (.ireturn, 1) := by decide +kernel
theorem dX5_fetch_15 : decode cX5_fetch 15 = .ok (.aload_n 0, 1) := by decide +kernel
theorem dX5_fetch_16 : decode cX5_fetch 16 = .ok (.getfield 90, 3) := by decide +kernel
theorem dX5_fetch_19 : decode cX5_fetch 19 = .ok (.ifCond .ne 6, 3) := by decide +kernel
theorem dX5_fetch_22 : decode cX5_fetch 22 = .ok (.bipush (-3), 2) := by decide +kernel
theorem dX5_fetch_24 : decode cX5_fetch 24 = .ok (.ireturn, 1) := by decide +kernel
theorem dX5_fetch_25 : decode cX5_fetch 25 = .ok (.aload_n 0, 1) := by decide +kernel
theorem dX5_fetch_26 : decode cX5_fetch 26 = .ok (.iload_n 1, 1) := by decide +kernel
theorem dX5_fetch_27 : decode cX5_fetch 27 = .ok (.invokevirtual 140, 3) := by decide +kernel
theorem dX5_fetch_30 : decode cX5_fetch 30 = .ok (.aload_n 0, 1) := by decide +kernel
theorem dX5_fetch_31 : decode cX5_fetch 31 = .ok (.getfield 131, 3) := by decide +kernel
theorem dX5_fetch_34 : decode cX5_fetch 34 = .ok (.aload_n 0, 1) := by decide +kernel
theorem dX5_fetch_35 : decode cX5_fetch 35 = .ok (.invokevirtual 81, 3) := by decide +kernel
theorem dX5_fetch_38 : decode cX5_fetch 38 = .ok (.if_icmp .gt 6, 3) := by decide +kernel
theorem dX5_fetch_41 : decode cX5_fetch 41 = .ok (.bipush (-3), 2) := by decide +kernel
theorem dX5_fetch_43 : decode cX5_fetch 43 = .ok (.ireturn, 1) := by decide +kernel
theorem dX5_fetch_44 : decode cX5_fetch 44 = .ok (.aload_n 0, 1) := by decide +kernel
theorem dX5_fetch_45 : decode cX5_fetch 45 = .ok (.dup, 1) := by decide +kernel
theorem dX5_fetch_46 : decode cX5_fetch 46 = .ok (.getfield 144, 3) := by decide +kernel
theorem dX5_fetch_49 : decode cX5_fetch 49 = .ok (.aload_n 0, 1) := by decide +kernel
theorem dX5_fetch_50 : decode cX5_fetch 50 = .ok (.getfield 7, 3) := by decide +kernel
theorem dX5_fetch_53 : decode cX5_fetch 53 = .ok (.iload_n 1, 1) := by decide +kernel
theorem dX5_fetch_54 : decode cX5_fetch 54 = .ok (.imul, 1) := by decide +kernel
theorem dX5_fetch_55 : decode cX5_fetch 55 = .ok (.iadd, 1) := by decide +kernel
theorem dX5_fetch_56 : decode cX5_fetch 56 = .ok (.putfield 144, 3) := by decide +kernel
theorem dX5_fetch_59 : decode cX5_fetch 59 = .ok (.aload_n 0, 1) := by decide +kernel
theorem dX5_fetch_60 : decode cX5_fetch 60 = .ok (.dup, 1) := by decide +kernel
theorem dX5_fetch_61 : decode cX5_fetch 61 = .ok (.getfield 147, 3) := by decide +kernel
theorem dX5_fetch_64 : decode cX5_fetch 64 = .ok (.aload_n 0, 1) := by decide +kernel
theorem dX5_fetch_65 : decode cX5_fetch 65 = .ok (.getfield 131, 3) := by decide +kernel
theorem dX5_fetch_68 : decode cX5_fetch 68 = .ok (.iadd, 1) := by decide +kernel
theorem dX5_fetch_69 : decode cX5_fetch 69 = .ok (.putfield 147, 3) := by decide +kernel
theorem dX5_fetch_72 : decode cX5_fetch 72 = .ok (.aload_n 0, 1) := by decide +kernel
theorem dX5_fetch_73 : decode cX5_fetch 73 = .ok (.getfield 131, 3) := by decide +kernel
theorem dX5_fetch_76 : decode cX5_fetch 76 = .ok (.aload_n 0, 1) := by decide +kernel
theorem dX5_fetch_77 : decode cX5_fetch 77 = .ok (.invokevirtual 81, 3) := by decide +kernel
theorem dX5_fetch_80 : decode cX5_fetch 80 = .ok (.isub, 1) := by decide +kernel
theorem dX5_fetch_81 : decode cX5_fetch 81 = .ok (.iconst 1, 1) := by decide +kernel
theorem dX5_fetch_82 : decode cX5_fetch 82 = .ok (.isub, 1) := by decide +kernel
theorem dX5_fetch_83 : decode cX5_fetch 83 = .ok (.iconst 2, 1) := by decide +kernel
theorem dX5_fetch_84 : decode cX5_fetch 84 = .ok (.idiv, 1) := by decide +kernel
theorem dX5_fetch_85 : decode cX5_fetch 85 = .ok (.istore_n 2, 1) := by decide +kernel
theorem dX5_fetch_86 : decode cX5_fetch 86 = .ok (.aload_n 0, 1) := by decide +kernel
theorem dX5_fetch_87 : decode cX5_fetch 87 = .ok (.invokevirtual 150, 3) := by decide +kernel
theorem dX5_fetch_90 : decode cX5_fetch 90 = .ok (.iconst 1, 1) := by decide +kernel
theorem dX5_fetch_91 : decode cX5_fetch 91 = .ok (.istore_n 3, 1) := by decide +kernel
theorem dX5_fetch_92 : decode cX5_fetch 92 = .ok (.iload_n 3, 1) := by decide +kernel
theorem dX5_fetch_93 : decode cX5_fetch 93 = .ok (.ifCond .eq 24, 3) := by decide +kernel
theorem dX5_fetch_96 : decode cX5_fetch 96 = .ok (.aload_n 0, 1) := by decide +kernel
theorem dX5_fetch_97 : decode cX5_fetch 97 = .ok (.invokevirtual 153, 3) := by decide +kernel
theorem dX5_fetch_100 : decode cX5_fetch 100 = .ok (.aload_n 0, 1) := by decide +kernel
theorem dX5_fetch_101 : decode cX5_fetch 101 = .ok (.getfield 131, 3) := by decide +kernel
theorem dX5_fetch_104 : decode cX5_fetch 104 = .ok (.iload_n 2, 1) := by decide +kernel
theorem dX5_fetch_105 : decode cX5_fetch 105 = .ok (.isub, 1) := by decide +kernel
theorem dX5_fetch_106 : decode cX5_fetch 106 = .ok (.if_icmp .ge 11, 3) := by decide +kernel
theorem dX5_fetch_109 : decode cX5_fetch 109 = .ok (.aload_n 0, 1) := by decide +kernel
theorem dX5_fetch_110 : decode cX5_fetch 110 = .ok (.invokevirtual 156, 3) := by decide +kernel
theorem dX5_fetch_113 : decode cX5_fetch 113 = .ok (.istore_n 3, 1) := by decide +kernel
theorem dX5_fetch_114 : decode cX5_fetch 114 = .ok (.goto (-22), 3) := by decide +kernel
theorem dX5_fetch_117 : decode cX5_fetch 117 = .ok (.iload_n 3, 1) := by decide +kernel
theorem dX5_fetch_118 : decode cX5_fetch 118 = .ok (.ifCond .ne 6, 3) := by decide +kernel
theorem dX5_fetch_121 : decode cX5_fetch 121 = .ok (.bipush (-9), 2) := by decide +kernel
theorem dX5_fetch_123 : decode cX5_fetch 123 = .ok (.ireturn, 1) := by decide +kernel
theorem dX5_fetch_124 : decode cX5_fetch 124 = .ok (.iconst 0, 1) := by decide +kernel
theorem dX5_fetch_125 : decode cX5_fetch 125 = .ok (.istore 4, 2) := by decide +kernel
theorem dX5_fetch_127 : decode cX5_fetch 127 = .ok (.iload 4, 2) := by decide +kernel
theorem dX5_fetch_129 : decode cX5_fetch 129 = .ok (.bipush 10, 2) := by decide +kernel
theorem dX5_fetch_131 : decode cX5_fetch 131 = .ok (.if_icmp .ge 17, 3) := by decide +kernel
theorem dX5_fetch_134 : decode cX5_fetch 134 = .ok (.aload_n 0, 1) := by decide +kernel
theorem dX5_fetch_135 : decode cX5_fetch 135 = .ok (.getfield 32, 3) := by decide +kernel
theorem dX5_fetch_138 : decode cX5_fetch 138 = .ok (.iload 4, 2) := by decide +kernel
theorem dX5_fetch_140 : decode cX5_fetch 140 = .ok (.iconst 0, 1) := by decide +kernel
theorem dX5_fetch_141 : decode cX5_fetch 141 = .ok (.bastore, 1) := by decide +kernel
theorem dX5_fetch_142 : decode cX5_fetch 142 = .ok (.iinc 4 1, 3) := by decide +kernel
theorem dX5_fetch_145 : decode cX5_fetch 145 = .ok (.goto (-18), 3) := by decide +kernel
theorem dX5_fetch_148 : decode cX5_fetch 148 = .ok (.iconst 0, 1) := by decide +kernel
theorem dX5_fetch_149 : decode cX5_fetch 149 = .ok (.istore 4, 2) := by decide +kernel
theorem dX5_fetch_151 : decode cX5_fetch 151 = .ok (.iload 4, 2) := by decide +kernel
theorem dX5_fetch_153 : decode cX5_fetch 153 = .ok (.aload_n 0, 1) := by decide +kernel
theorem dX5_fetch_154 : decode cX5_fetch 154 = .ok (.getfield 131, 3) := by decide +kernel
theorem dX5_fetch_157 : decode cX5_fetch 157 = .ok (.if_icmp .ge 47, 3) := by decide +kernel
theorem dX5_fetch_160 : decode cX5_fetch 160 = .ok (.aload_n 0, 1) := by decide +kernel
theorem dX5_fetch_161 : decode cX5_fetch 161 = .ok (.getfield 32, 3) := by decide +kernel
theorem dX5_fetch_164 : decode cX5_fetch 164 = .ok (.aload_n 0, 1) := by decide +kernel
theorem dX5_fetch_165 : decode cX5_fetch 165 = .ok (.getfield 36, 3) := by decide +kernel
theorem dX5_fetch_168 : decode cX5_fetch 168 = .ok (.iload 4, 2) := by decide +kernel
theorem dX5_fetch_170 : decode cX5_fetch 170 = .ok (.iaload, 1) := by decide +kernel
theorem dX5_fetch_171 : decode cX5_fetch 171 = .ok (.aload_n 0, 1) := by decide +kernel
theorem dX5_fetch_172 : decode cX5_fetch 172 = .ok (.aload_n 0, 1) := by decide +kernel
theorem dX5_fetch_173 : decode cX5_fetch 173 = .ok (.getfield 36, 3) := by decide +kernel
theorem dX5_fetch_176 : decode cX5_fetch 176 = .ok (.iload 4, 2) := by decide +kernel
theorem dX5_fetch_178 : decode cX5_fetch 178 = .ok (.iaload, 1) := by decide +kernel
theorem dX5_fetch_179 : decode cX5_fetch 179 = .ok (.invokevirtual 137, 3) := by decide +kernel
theorem dX5_fetch_182 : decode cX5_fetch 182 = .ok (.aload_n 0, 1) := by decide +kernel
theorem dX5_fetch_183 : decode cX5_fetch 183 = .ok (.getfield 39, 3) := by decide +kernel
theorem dX5_fetch_186 : decode cX5_fetch 186 = .ok (.iload 4, 2) := by decide +kernel
theorem dX5_fetch_188 : decode cX5_fetch 188 = .ok (.iaload, 1) := by decide +kernel
theorem dX5_fetch_189 : decode cX5_fetch 189 = .ok (.if_icmp .eq 7, 3) := by decide +kernel
theorem dX5_fetch_192 : decode cX5_fetch 192 = .ok (.iconst 1, 1) := by decide +kernel
theorem dX5_fetch_193 : decode cX5_fetch 193 = .ok (.goto 4, 3) := by decide +kernel
theorem dX5_fetch_196 : decode cX5_fetch 196 = .ok (.iconst 0, 1) := by decide +kernel
theorem dX5_fetch_197 : decode cX5_fetch 197 = .ok (.bastore, 1) := by decide +kernel
theorem dX5_fetch_198 : decode cX5_fetch 198 = .ok (.iinc 4 1, 3) := by decide +kernel
theorem dX5_fetch_201 : decode cX5_fetch 201 = .ok (.goto (-50), 3) := by decide +kernel
theorem dX5_fetch_204 : decode cX5_fetch 204 = .ok (.aload_n 0, 1) := by decide +kernel
theorem dX5_fetch_205 : decode cX5_fetch 205 = .ok (.iconst 0, 1) := by decide +kernel
theorem dX5_fetch_206 : decode cX5_fetch 206 = .ok (.invokevirtual 137, 3) := by decide +kernel
theorem dX5_fetch_209 : decode cX5_fetch 209 = .ok (.ireturn, 1) := by decide +kernel
theorem dX5_caught_0 : decode cX5_caught 0 = .ok (.aload_n 0, 1) := by decide +kernel
theorem dX5_caught_1 : decode cX5_caught 1 = .ok (.iconst 0, 1) := by decide +kernel
theorem dX5_caught_2 : decode cX5_caught 2 = .ok (.putfield 45, 3) := by decide +kernel
theorem dX5_caught_5 : decode cX5_caught 5 = .ok (.iload_n 1, 1) := by decide +kernel
theorem dX5_caught_6 : decode cX5_caught 6 = .ok (.invokestatic 100, 3) := by decide +kernel
theorem dX5_caught_9 : decode cX5_caught 9 = .ok (.ifCond .ne 7, 3) := by decide +kernel
theorem dX5_caught_12 : decode cX5_caught 12 = .ok (.iconst (-1), 1) := by decide +kernel
theorem dX5_caught_13 : decode cX5_caught 13 = .ok (.goto 17, 3) := by decide +kernel
theorem dX5_caught_16 : decode cX5_caught 16 = .ok (.aload_n 0, 1) := by decide +kernel
theorem dX5_caught_17 : decode cX5_caught 17 = .ok (.getfield 32, 3) := by decide +kernel
theorem dX5_caught_20 : decode cX5_caught 20 = .ok (.iload_n 1, 1) := by decide +kernel
theorem dX5_caught_21 : decode cX5_caught 21 = .ok (.baload, 1) := by decide +kernel
theorem dX5_caught_22 : decode cX5_caught 22 = .ok (.ifCond .eq 7, 3) := by decide +kernel
theorem dX5_caught_25 : decode cX5_caught 25 = .ok (.iconst 1, 1) := by decide +kernel
theorem dX5_caught_26 : decode cX5_caught 26 = .ok (.goto 4, 3) := by decide +kernel
theorem dX5_caught_29 : decode cX5_caught 29 = .ok (.iconst 0, 1) := by decide +kernel
theorem dX5_caught_30 : decode cX5_caught 30 = .ok (.ireturn, 1) := by decide +kernel
theorem dX5_mends_0 : decode cX5_mends 0 = .ok (.aload_n 0, 1) := by decide +kernel
theorem dX5_mends_1 : decode cX5_mends 1 = .ok (.iconst 0, 1) := by decide +kernel
theorem dX5_mends_2 : decode cX5_mends 2 = .ok (.putfield 45, 3) := by decide +kernel
theorem dX5_mends_5 : decode cX5_mends 5 = .ok (.iload_n 1, 1) := by decide +kernel
theorem dX5_mends_6 : decode cX5_mends 6 = .ok (.invokestatic 100, 3) := by decide +kernel
theorem dX5_mends_9 : decode cX5_mends 9 = .ok (.ifCond .ne 6, 3) := by decide +kernel
theorem dX5_mends_12 : decode cX5_mends 12 = .ok (.bipush (-2), 2) := by decide +kernel
theorem dX5_mends_14 : decode cX5_mends 14 = .ok (.ireturn, 1) := by decide +kernel
theorem dX5_mends_15 : decode cX5_mends 15 = .ok (.aload_n 0, 1) := by decide +kernel
theorem dX5_mends_16 : decode cX5_mends 16 = .ok (.getfield 90, 3) := by decide +kernel
theorem dX5_mends_19 : decode cX5_mends 19 = .ok (.ifCond .ne 6, 3) := by decide +kernel
theorem dX5_mends_22 : decode cX5_mends 22 = .ok (.bipush (-3), 2) := by decide +kernel
theorem dX5_mends_24 : decode cX5_mends 24 = .ok (.ireturn, 1) := by decide +kernel
theorem dX5_mends_25 : decode cX5_mends 25 = .ok (.aload_n 0, 1) := by decide +kernel
theorem dX5_mends_26 : decode cX5_mends 26 = .ok (.iload_n 1, 1) := by decide +kernel
theorem dX5_mends_27 : decode cX5_mends 27 = .ok (.invokevirtual 140, 3) := by decide +kernel
theorem dX5_mends_30 : decode cX5_mends 30 = .ok (.aload_n 0, 1) := by decide +kernel
theorem dX5_mends_31 : decode cX5_mends 31 = .ok (.getfield 131, 3) := by decide +kernel
theorem dX5_mends_34 : decode cX5_mends 34 = .ok (.aload_n 0, 1) := by decide +kernel
theorem dX5_mends_35 : decode cX5_mends 35 = .ok (.invokevirtual 81, 3) := by decide +kernel
theorem dX5_mends_38 : decode cX5_mends 38 = .ok (.if_icmp .gt 8, 3) := by decide +kernel
theorem dX5_mends_41 : decode cX5_mends 41 = .ok (.bipush (-3), 2) := by decide +kernel
theorem dX5_mends_43 : decode cX5_mends 43 = .ok (.goto 16, 3) := by decide +kernel
theorem dX5_mends_46 : decode cX5_mends 46 = .ok (.aload_n 0, 1) := by decide +kernel
theorem dX5_mends_47 : decode cX5_mends 47 = .ok (.getfield 131, 3) := by decide +kernel
theorem dX5_mends_50 : decode cX5_mends 50 = .ok (.aload_n 0, 1) := by decide +kernel
theorem dX5_mends_51 : decode cX5_mends 51 = .ok (.invokevirtual 81, 3) := by decide +kernel
theorem dX5_mends_54 : decode cX5_mends 54 = .ok (.isub, 1) := by decide +kernel
theorem dX5_mends_55 : decode cX5_mends 55 = .ok (.iconst 1, 1) := by decide +kernel
theorem dX5_mends_56 : decode cX5_mends 56 = .ok (.isub, 1) := by decide +kernel
theorem dX5_mends_57 : decode cX5_mends 57 = .ok (.iconst 2, 1) := by decide +kernel
theorem dX5_mends_58 : decode cX5_mends 58 = .ok (.idiv, 1) := by decide +kernel
