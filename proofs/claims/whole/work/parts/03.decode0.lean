/-! decode rows -/
theorem dX0_init_0 : decode cX0_init 0 = .ok (.aload_n 0, 1) := by decide +kernel
theorem dX0_init_1 : decode cX0_init 1 = .ok (.invokespecial 3, 3) := by decide +kernel
theorem dX0_init_4 : decode cX0_init 4 = .ok (.aload_n 0, 1) := by decide +kernel
theorem dX0_init_5 : decode cX0_init 5 = .ok (.bipush 7, 2) := by decide +kernel
theorem dX0_init_7 : decode cX0_init 7 = .ok (.newarray .int, 2) := by decide +kernel
theorem dX0_init_9 : decode cX0_init 9 = .ok (.putfield 9, 3) := by decide +kernel
theorem dX0_init_12 : decode cX0_init 12 = .ok (.aload_n 0, 1) := by decide +kernel
theorem dX0_init_13 : decode cX0_init 13 = .ok (.bipush 7, 2) := by decide +kernel
theorem dX0_init_15 : decode cX0_init 15 = .ok (.newarray .int, 2) := by decide +kernel
theorem dX0_init_17 : decode cX0_init 17 = .ok (.putfield 15, 3) := by decide +kernel
theorem dX0_init_20 : decode cX0_init 20 = .ok (.aload_n 0, 1) := by decide +kernel
theorem dX0_init_21 : decode cX0_init 21 = .ok (.iconst 0, 1) := by decide +kernel
theorem dX0_init_22 : decode cX0_init 22 = .ok (.putfield 18, 3) := by decide +kernel
theorem dX0_init_25 : decode cX0_init 25 = .ok (.return_, 1) := by decide +kernel
theorem dX0_layThrough_0 : decode cX0_layThrough 0 = .ok (.aload_n 0, 1) := by decide +kernel
theorem dX0_layThrough_1 : decode cX0_layThrough 1 = .ok (.iconst 0, 1) := by decide +kernel
theorem dX0_layThrough_2 : decode cX0_layThrough 2 = .ok (.putfield 18, 3) := by decide +kernel
theorem dX0_layThrough_5 : decode cX0_layThrough 5 = .ok (.iconst 0, 1) := by decide +kernel
theorem dX0_layThrough_6 : decode cX0_layThrough 6 = .ok (.istore_n 3, 1) := by decide +kernel
theorem dX0_layThrough_7 : decode cX0_layThrough 7 = .ok (.iload_n 3, 1) := by decide +kernel
theorem dX0_layThrough_8 : decode cX0_layThrough 8 = .ok (.aload_n 1, 1) := by decide +kernel
theorem dX0_layThrough_9 : decode cX0_layThrough 9 = .ok (.getfield 22, 3) := by decide +kernel
theorem dX0_layThrough_12 : decode cX0_layThrough 12 = .ok (.if_icmp .ge 41, 3) := by decide +kernel
theorem dX0_layThrough_15 : decode cX0_layThrough 15 = .ok (.iload_n 2, 1) := by decide +kernel
theorem dX0_layThrough_16 : decode cX0_layThrough 16 = .ok (.aload_n 1, 1) := by decide +kernel
theorem dX0_layThrough_17 : decode cX0_layThrough 17 = .ok (.getfield 22, 3) := by decide +kernel
theorem dX0_layThrough_20 : decode cX0_layThrough 20 = .ok (.iconst 1, 1) := by decide +kernel
theorem dX0_layThrough_21 : decode cX0_layThrough 21 = .ok (.isub, 1) := by decide +kernel
theorem dX0_layThrough_22 : decode cX0_layThrough 22 = .ok (.iload_n 3, 1) := by decide +kernel
theorem dX0_layThrough_23 : decode cX0_layThrough 23 = .ok (.isub, 1) := by decide +kernel
theorem dX0_layThrough_24 : decode cX0_layThrough 24 = .ok (.invokestatic 25, 3) := by decide +kernel
theorem dX0_layThrough_27 : decode cX0_layThrough 27 = .ok (.iconst 1, 1) := by decide +kernel
theorem dX0_layThrough_28 : decode cX0_layThrough 28 = .ok (.if_icmp .ne 19, 3) := by decide +kernel
theorem dX0_layThrough_31 : decode cX0_layThrough 31 = .ok (.aload_n 0, 1) := by decide +kernel
theorem dX0_layThrough_32 : decode cX0_layThrough 32 = .ok (.aload_n 1, 1) := by decide +kernel
theorem dX0_layThrough_33 : decode cX0_layThrough 33 = .ok (.getfield 29, 3) := by decide +kernel
theorem dX0_layThrough_36 : decode cX0_layThrough 36 = .ok (.iload_n 3, 1) := by decide +kernel
theorem dX0_layThrough_37 : decode cX0_layThrough 37 = .ok (.iaload, 1) := by decide +kernel
theorem dX0_layThrough_38 : decode cX0_layThrough 38 = .ok (.aload_n 1, 1) := by decide +kernel
theorem dX0_layThrough_39 : decode cX0_layThrough 39 = .ok (.getfield 32, 3) := by decide +kernel
theorem dX0_layThrough_42 : decode cX0_layThrough 42 = .ok (.iload_n 3, 1) := by decide +kernel
theorem dX0_layThrough_43 : decode cX0_layThrough 43 = .ok (.iaload, 1) := by decide +kernel
theorem dX0_layThrough_44 : decode cX0_layThrough 44 = .ok (.invokevirtual 35, 3) := by decide +kernel
theorem dX0_layThrough_47 : decode cX0_layThrough 47 = .ok (.iinc 3 1, 3) := by decide +kernel
theorem dX0_layThrough_50 : decode cX0_layThrough 50 = .ok (.goto (-43), 3) := by decide +kernel
theorem dX0_layThrough_53 : decode cX0_layThrough 53 = .ok (.return_, 1) := by decide +kernel
theorem dX0_bend_0 : decode cX0_bend 0 = .ok (.aload_n 0, 1) := by decide +kernel
theorem dX0_bend_1 : decode cX0_bend 1 = .ok (.getfield 18, 3) := by decide +kernel
theorem dX0_bend_4 : decode cX0_bend 4 = .ok (.bipush 6, 2) := by decide +kernel
theorem dX0_bend_6 : decode cX0_bend 6 = .ok (.if_icmp .le 4, 3) := by decide +kernel
theorem dX0_bend_9 : decode cX0_bend 9 = .ok (.return_, 1) := by decide +kernel
theorem dX0_bend_10 : decode cX0_bend 10 = .ok (.iload_n 2, 1) := by decide +kernel
theorem dX0_bend_11 : decode cX0_bend 11 = .ok (.aload_n 0, 1) := by decide +kernel
theorem dX0_bend_12 : decode cX0_bend 12 = .ok (.iload_n 1, 1) := by decide +kernel
theorem dX0_bend_13 : decode cX0_bend 13 = .ok (.invokevirtual 39, 3) := by decide +kernel
theorem dX0_bend_16 : decode cX0_bend 16 = .ok (.isub, 1) := by decide +kernel
theorem dX0_bend_17 : decode cX0_bend 17 = .ok (.bipush 97, 2) := by decide +kernel
theorem dX0_bend_19 : decode cX0_bend 19 = .ok (.iadd, 1) := by decide +kernel
theorem dX0_bend_20 : decode cX0_bend 20 = .ok (.istore_n 3, 1) := by decide +kernel
theorem dX0_bend_21 : decode cX0_bend 21 = .ok (.iconst 0, 1) := by decide +kernel
theorem dX0_bend_22 : decode cX0_bend 22 = .ok (.istore 4, 2) := by decide +kernel
theorem dX0_bend_24 : decode cX0_bend 24 = .ok (.iload 4, 2) := by decide +kernel
theorem dX0_bend_26 : decode cX0_bend 26 = .ok (.aload_n 0, 1) := by decide +kernel
theorem dX0_bend_27 : decode cX0_bend 27 = .ok (.getfield 18, 3) := by decide +kernel
theorem dX0_bend_30 : decode cX0_bend 30 = .ok (.if_icmp .ge 27, 3) := by decide +kernel
theorem dX0_bend_33 : decode cX0_bend 33 = .ok (.iload_n 3, 1) := by decide +kernel
theorem dX0_bend_34 : decode cX0_bend 34 = .ok (.iload_n 1, 1) := by decide +kernel
theorem dX0_bend_35 : decode cX0_bend 35 = .ok (.aload_n 0, 1) := by decide +kernel
theorem dX0_bend_36 : decode cX0_bend 36 = .ok (.getfield 9, 3) := by decide +kernel
theorem dX0_bend_39 : decode cX0_bend 39 = .ok (.iload 4, 2) := by decide +kernel
theorem dX0_bend_41 : decode cX0_bend 41 = .ok (.iaload, 1) := by decide +kernel
theorem dX0_bend_42 : decode cX0_bend 42 = .ok (.isub, 1) := by decide +kernel
theorem dX0_bend_43 : decode cX0_bend 43 = .ok (.invokestatic 43, 3) := by decide +kernel
theorem dX0_bend_46 : decode cX0_bend 46 = .ok (.imul, 1) := by decide +kernel
theorem dX0_bend_47 : decode cX0_bend 47 = .ok (.bipush 97, 2) := by decide +kernel
theorem dX0_bend_49 : decode cX0_bend 49 = .ok (.irem, 1) := by decide +kernel
theorem dX0_bend_50 : decode cX0_bend 50 = .ok (.istore_n 3, 1) := by decide +kernel
theorem dX0_bend_51 : decode cX0_bend 51 = .ok (.iinc 4 1, 3) := by decide +kernel
theorem dX0_bend_54 : decode cX0_bend 54 = .ok (.goto (-30), 3) := by decide +kernel
theorem dX0_bend_57 : decode cX0_bend 57 = .ok (.aload_n 0, 1) := by decide +kernel
theorem dX0_bend_58 : decode cX0_bend 58 = .ok (.getfield 9, 3) := by decide +kernel
theorem dX0_bend_61 : decode cX0_bend 61 = .ok (.aload_n 0, 1) := by decide +kernel
theorem dX0_bend_62 : decode cX0_bend 62 = .ok (.getfield 18, 3) := by decide +kernel
theorem dX0_bend_65 : decode cX0_bend 65 = .ok (.iload_n 1, 1) := by decide +kernel
theorem dX0_bend_66 : decode cX0_bend 66 = .ok (.iastore, 1) := by decide +kernel
theorem dX0_bend_67 : decode cX0_bend 67 = .ok (.aload_n 0, 1) := by decide +kernel
theorem dX0_bend_68 : decode cX0_bend 68 = .ok (.getfield 15, 3) := by decide +kernel
theorem dX0_bend_71 : decode cX0_bend 71 = .ok (.aload_n 0, 1) := by decide +kernel
theorem dX0_bend_72 : decode cX0_bend 72 = .ok (.getfield 18, 3) := by decide +kernel
theorem dX0_bend_75 : decode cX0_bend 75 = .ok (.iload_n 3, 1) := by decide +kernel
theorem dX0_bend_76 : decode cX0_bend 76 = .ok (.bipush 97, 2) := by decide +kernel
theorem dX0_bend_78 : decode cX0_bend 78 = .ok (.irem, 1) := by decide +kernel
theorem dX0_bend_79 : decode cX0_bend 79 = .ok (.iastore, 1) := by decide +kernel
theorem dX0_bend_80 : decode cX0_bend 80 = .ok (.aload_n 0, 1) := by decide +kernel
theorem dX0_bend_81 : decode cX0_bend 81 = .ok (.dup, 1) := by decide +kernel
theorem dX0_bend_82 : decode cX0_bend 82 = .ok (.getfield 18, 3) := by decide +kernel
theorem dX0_bend_85 : decode cX0_bend 85 = .ok (.iconst 1, 1) := by decide +kernel
theorem dX0_bend_86 : decode cX0_bend 86 = .ok (.iadd, 1) := by decide +kernel
theorem dX0_bend_87 : decode cX0_bend 87 = .ok (.putfield 18, 3) := by decide +kernel
theorem dX0_bend_90 : decode cX0_bend 90 = .ok (.return_, 1) := by decide +kernel
theorem dX0_at_0 : decode cX0_at 0 = .ok (.iconst 0, 1) := by decide +kernel
theorem dX0_at_1 : decode cX0_at 1 = .ok (.istore_n 2, 1) := by decide +kernel
theorem dX0_at_2 : decode cX0_at 2 = .ok (.aload_n 0, 1) := by decide +kernel
theorem dX0_at_3 : decode cX0_at 3 = .ok (.getfield 18, 3) := by decide +kernel
theorem dX0_at_6 : decode cX0_at 6 = .ok (.iconst 1, 1) := by decide +kernel
theorem dX0_at_7 : decode cX0_at 7 = .ok (.isub, 1) := by decide +kernel
theorem dX0_at_8 : decode cX0_at 8 = .ok (.istore_n 3, 1) := by decide +kernel
theorem dX0_at_9 : decode cX0_at 9 = .ok (.iload_n 3, 1) := by decide +kernel
theorem dX0_at_10 : decode cX0_at 10 = .ok (.ifCond .lt 33, 3) := by decide +kernel
theorem dX0_at_13 : decode cX0_at 13 = .ok (.iload_n 2, 1) := by decide +kernel
theorem dX0_at_14 : decode cX0_at 14 = .ok (.iload_n 1, 1) := by decide +kernel
theorem dX0_at_15 : decode cX0_at 15 = .ok (.aload_n 0, 1) := by decide +kernel
theorem dX0_at_16 : decode cX0_at 16 = .ok (.getfield 9, 3) := by decide +kernel
theorem dX0_at_19 : decode cX0_at 19 = .ok (.iload_n 3, 1) := by decide +kernel
theorem dX0_at_20 : decode cX0_at 20 = .ok (.iaload, 1) := by decide +kernel
theorem dX0_at_21 : decode cX0_at 21 = .ok (.isub, 1) := by decide +kernel
theorem dX0_at_22 : decode cX0_at 22 = .ok (.bipush 97, 2) := by decide +kernel
theorem dX0_at_24 : decode cX0_at 24 = .ok (.iadd, 1) := by decide +kernel
theorem dX0_at_25 : decode cX0_at 25 = .ok (.imul, 1) := by decide +kernel
theorem dX0_at_26 : decode cX0_at 26 = .ok (.aload_n 0, 1) := by decide +kernel
theorem dX0_at_27 : decode cX0_at 27 = .ok (.getfield 15, 3) := by decide +kernel
theorem dX0_at_30 : decode cX0_at 30 = .ok (.iload_n 3, 1) := by decide +kernel
theorem dX0_at_31 : decode cX0_at 31 = .ok (.iaload, 1) := by decide +kernel
theorem dX0_at_32 : decode cX0_at 32 = .ok (.iadd, 1) := by decide +kernel
theorem dX0_at_33 : decode cX0_at 33 = .ok (.bipush 97, 2) := by decide +kernel
theorem dX0_at_35 : decode cX0_at 35 = .ok (.irem, 1) := by decide +kernel
theorem dX0_at_36 : decode cX0_at 36 = .ok (.istore_n 2, 1) := by decide +kernel
theorem dX0_at_37 : decode cX0_at 37 = .ok (.iinc 3 (-1), 3) := by decide +kernel
theorem dX0_at_40 : decode cX0_at 40 = .ok (.goto (-31), 3) := by decide +kernel
theorem dX0_at_43 : decode cX0_at 43 = .ok (.iload_n 2, 1) := by decide +kernel
theorem dX0_at_44 : decode cX0_at 44 = .ok (.ireturn, 1) := by decide +kernel
theorem dX1_init_0 : decode cX1_init 0 = .ok (.aload_n 0, 1) := by decide +kernel
theorem dX1_init_1 : decode cX1_init 1 = .ok (.invokespecial 3, 3) := by decide +kernel
theorem dX1_init_4 : decode cX1_init 4 = .ok (.aload_n 0, 1) := by decide +kernel
theorem dX1_init_5 : decode cX1_init 5 = .ok (.bipush 6, 2) := by decide +kernel
theorem dX1_init_7 : decode cX1_init 7 = .ok (.newarray .int, 2) := by decide +kernel
theorem dX1_init_9 : decode cX1_init 9 = .ok (.putfield 9, 3) := by decide +kernel
theorem dX1_init_12 : decode cX1_init 12 = .ok (.aload_n 0, 1) := by decide +kernel
theorem dX1_init_13 : decode cX1_init 13 = .ok (.bipush 6, 2) := by decide +kernel
theorem dX1_init_15 : decode cX1_init 15 = .ok (.newarray .int, 2) := by decide +kernel
theorem dX1_init_17 : decode cX1_init 17 = .ok (.putfield 15, 3) := by decide +kernel
theorem dX1_init_20 : decode cX1_init 20 = .ok (.aload_n 0, 1) := by decide +kernel
theorem dX1_init_21 : decode cX1_init 21 = .ok (.iconst 0, 1) := by decide +kernel
theorem dX1_init_22 : decode cX1_init 22 = .ok (.putfield 18, 3) := by decide +kernel
theorem dX1_init_25 : decode cX1_init 25 = .ok (.aload_n 0, 1) := by decide +kernel
theorem dX1_init_26 : decode cX1_init 26 = .ok (.iconst 0, 1) := by decide +kernel
theorem dX1_init_27 : decode cX1_init 27 = .ok (.putfield 22, 3) := by decide +kernel
theorem dX1_init_30 : decode cX1_init 30 = .ok (.aload_n 0, 1) := by decide +kernel
theorem dX1_init_31 : decode cX1_init 31 = .ok (.iconst 0, 1) := by decide +kernel
theorem dX1_init_32 : decode cX1_init 32 = .ok (.putfield 25, 3) := by decide +kernel
theorem dX1_init_35 : decode cX1_init 35 = .ok (.aload_n 0, 1) := by decide +kernel
theorem dX1_init_36 : decode cX1_init 36 = .ok (.iconst 1, 1) := by decide +kernel
theorem dX1_init_37 : decode cX1_init 37 = .ok (.putfield 29, 3) := by decide +kernel
theorem dX1_init_40 : decode cX1_init 40 = .ok (.aload_n 0, 1) := by decide +kernel
theorem dX1_init_41 : decode cX1_init 41 = .ok (.iconst 1, 1) := by decide +kernel
theorem dX1_init_42 : decode cX1_init 42 = .ok (.putfield 32, 3) := by decide +kernel
theorem dX1_init_45 : decode cX1_init 45 = .ok (.aload_n 0, 1) := by decide +kernel
theorem dX1_init_46 : decode cX1_init 46 = .ok (.iconst 1, 1) := by decide +kernel
theorem dX1_init_47 : decode cX1_init 47 = .ok (.putfield 35, 3) := by decide +kernel
theorem dX1_init_50 : decode cX1_init 50 = .ok (.return_, 1) := by decide +kernel
theorem dX1_begin_0 : decode cX1_begin 0 = .ok (.aload_n 0, 1) := by decide +kernel
theorem dX1_begin_1 : decode cX1_begin 1 = .ok (.iconst 1, 1) := by decide +kernel
theorem dX1_begin_2 : decode cX1_begin 2 = .ok (.putfield 18, 3) := by decide +kernel
theorem dX1_begin_5 : decode cX1_begin 5 = .ok (.aload_n 0, 1) := by decide +kernel
theorem dX1_begin_6 : decode cX1_begin 6 = .ok (.iconst 0, 1) := by decide +kernel
theorem dX1_begin_7 : decode cX1_begin 7 = .ok (.putfield 22, 3) := by decide +kernel
theorem dX1_begin_10 : decode cX1_begin 10 = .ok (.aload_n 0, 1) := by decide +kernel
theorem dX1_begin_11 : decode cX1_begin 11 = .ok (.iload_n 1, 1) := by decide +kernel
theorem dX1_begin_12 : decode cX1_begin 12 = .ok (.putfield 25, 3) := by decide +kernel
theorem dX1_begin_15 : decode cX1_begin 15 = .ok (.aload_n 0, 1) := by decide +kernel
theorem dX1_begin_16 : decode cX1_begin 16 = .ok (.iload_n 2, 1) := by decide +kernel
theorem dX1_begin_17 : decode cX1_begin 17 = .ok (.putfield 29, 3) := by decide +kernel
theorem dX1_begin_20 : decode cX1_begin 20 = .ok (.aload_n 0, 1) := by decide +kernel
theorem dX1_begin_21 : decode cX1_begin 21 = .ok (.iload_n 3, 1) := by decide +kernel
theorem dX1_begin_22 : decode cX1_begin 22 = .ok (.putfield 32, 3) := by decide +kernel
theorem dX1_begin_25 : decode cX1_begin 25 = .ok (.aload_n 0, 1) := by decide +kernel
theorem dX1_begin_26 : decode cX1_begin 26 = .ok (.iload_n 3, 1) := by decide +kernel
theorem dX1_begin_27 : decode cX1_begin 27 = .ok (.iload_n 2, 1) := by decide +kernel
theorem dX1_begin_28 : decode cX1_begin 28 = .ok (.imul, 1) := by decide +kernel
theorem dX1_begin_29 : decode cX1_begin 29 = .ok (.putfield 35, 3) := by decide +kernel
theorem dX1_begin_32 : decode cX1_begin 32 = .ok (.aload_n 0, 1) := by decide +kernel
theorem dX1_begin_33 : decode cX1_begin 33 = .ok (.aload_n 0, 1) := by decide +kernel
theorem dX1_begin_34 : decode cX1_begin 34 = .ok (.getfield 9, 3) := by decide +kernel
theorem dX1_begin_37 : decode cX1_begin 37 = .ok (.iload 4, 2) := by decide +kernel
theorem dX1_begin_39 : decode cX1_begin 39 = .ok (.invokevirtual 38, 3) := by decide +kernel
theorem dX1_begin_42 : decode cX1_begin 42 = .ok (.return_, 1) := by decide +kernel
theorem dX1_veilBy_0 : decode cX1_veilBy 0 = .ok (.aload_n 0, 1) := by decide +kernel
theorem dX1_veilBy_1 : decode cX1_veilBy 1 = .ok (.iload_n 1, 1) := by decide +kernel
theorem dX1_veilBy_2 : decode cX1_veilBy 2 = .ok (.bipush (-9), 2) := by decide +kernel
theorem dX1_veilBy_4 : decode cX1_veilBy 4 = .ok (.if_icmp .eq 7, 3) := by decide +kernel
theorem dX1_veilBy_7 : decode cX1_veilBy 7 = .ok (.iconst 1, 1) := by decide +kernel
theorem dX1_veilBy_8 : decode cX1_veilBy 8 = .ok (.goto 4, 3) := by decide +kernel
theorem dX1_veilBy_11 : decode cX1_veilBy 11 = .ok (.iconst 0, 1) := by decide +kernel
theorem dX1_veilBy_12 : decode cX1_veilBy 12 = .ok (.putfield 22, 3) := by decide +kernel
theorem dX1_veilBy_15 : decode cX1_veilBy 15 = .ok (.aload_n 0, 1) := by decide +kernel
theorem dX1_veilBy_16 : decode cX1_veilBy 16 = .ok (.getfield 22, 3) := by decide +kernel
theorem dX1_veilBy_19 : decode cX1_veilBy 19 = .ok (.ifCond .eq 12, 3) := by decide +kernel
theorem dX1_veilBy_22 : decode cX1_veilBy 22 = .ok (.aload_n 0, 1) := by decide +kernel
theorem dX1_veilBy_23 : decode cX1_veilBy 23 = .ok (.aload_n 0, 1) := by decide +kernel
theorem dX1_veilBy_24 : decode cX1_veilBy 24 = .ok (.getfield 15, 3) := by decide +kernel
theorem dX1_veilBy_27 : decode cX1_veilBy 27 = .ok (.iload_n 1, 1) := by decide +kernel
theorem dX1_veilBy_28 : decode cX1_veilBy 28 = .ok (.invokevirtual 38, 3) := by decide +kernel
theorem dX1_veilBy_31 : decode cX1_veilBy 31 = .ok (.return_, 1) := by decide +kernel
theorem dX1_drawLots_0 : decode cX1_drawLots 0 = .ok (.iload_n 2, 1) := by decide +kernel
theorem dX1_drawLots_1 : decode cX1_drawLots 1 = .ok (.i2l, 1) := by decide +kernel
theorem dX1_drawLots_2 : decode cX1_drawLots 2 = .ok (.lstore_n 3, 1) := by decide +kernel
theorem dX1_drawLots_3 : decode cX1_drawLots 3 = .ok (.iconst 0, 1) := by decide +kernel
theorem dX1_drawLots_4 : decode cX1_drawLots 4 = .ok (.istore 5, 2) := by decide +kernel
theorem dX1_drawLots_6 : decode cX1_drawLots 6 = .ok (.iload 5, 2) := by decide +kernel
theorem dX1_drawLots_8 : decode cX1_drawLots 8 = .ok (.aload_n 0, 1) := by decide +kernel
theorem dX1_drawLots_9 : decode cX1_drawLots 9 = .ok (.getfield 35, 3) := by decide +kernel
theorem dX1_drawLots_12 : decode cX1_drawLots 12 = .ok (.if_icmp .ge 37, 3) := by decide +kernel
theorem dX1_drawLots_15 : decode cX1_drawLots 15 = .ok (.ldc2_w 42, 3) := by decide +kernel
theorem dX1_drawLots_18 : decode cX1_drawLots 18 = .ok (.lload_n 3, 1) := by decide +kernel
theorem dX1_drawLots_19 : decode cX1_drawLots 19 = .ok (.lmul, 1) := by decide +kernel
theorem dX1_drawLots_20 : decode cX1_drawLots 20 = .ok (.ldc2_w 44, 3) := by decide +kernel
theorem dX1_drawLots_23 : decode cX1_drawLots 23 = .ok (.ladd, 1) := by decide +kernel
theorem dX1_drawLots_24 : decode cX1_drawLots 24 = .ok (.ldc2_w 46, 3) := by decide +kernel
theorem dX1_drawLots_27 : decode cX1_drawLots 27 = .ok (.lrem, 1) := by decide +kernel
theorem dX1_drawLots_28 : decode cX1_drawLots 28 = .ok (.lstore_n 3, 1) := by decide +kernel
theorem dX1_drawLots_29 : decode cX1_drawLots 29 = .ok (.aload_n 1, 1) := by decide +kernel
theorem dX1_drawLots_30 : decode cX1_drawLots 30 = .ok (.iload 5, 2) := by decide +kernel
theorem dX1_drawLots_32 : decode cX1_drawLots 32 = .ok (.lload_n 3, 1) := by decide +kernel
theorem dX1_drawLots_33 : decode cX1_drawLots 33 = .ok (.ldc2_w 48, 3) := by decide +kernel
theorem dX1_drawLots_36 : decode cX1_drawLots 36 = .ok (.ldiv, 1) := by decide +kernel
theorem dX1_drawLots_37 : decode cX1_drawLots 37 = .ok (.ldc2_w 50, 3) := by decide +kernel
theorem dX1_drawLots_40 : decode cX1_drawLots 40 = .ok (.lrem, 1) := by decide +kernel
theorem dX1_drawLots_41 : decode cX1_drawLots 41 = .ok (.l2i, 1) := by decide +kernel
theorem dX1_drawLots_42 : decode cX1_drawLots 42 = .ok (.iastore, 1) := by decide +kernel
theorem dX1_drawLots_43 : decode cX1_drawLots 43 = .ok (.iinc 5 1, 3) := by decide +kernel
theorem dX1_drawLots_46 : decode cX1_drawLots 46 = .ok (.goto (-40), 3) := by decide +kernel
theorem dX1_drawLots_49 : decode cX1_drawLots 49 = .ok (.return_, 1) := by decide +kernel
theorem dX1_pointNumber_0 : decode cX1_pointNumber 0 = .ok (.aload_n 0, 1) := by decide +kernel
theorem dX1_pointNumber_1 : decode cX1_pointNumber 1 = .ok (.getfield 25, 3) := by decide +kernel
theorem dX1_pointNumber_4 : decode cX1_pointNumber 4 = .ok (.iload_n 2, 1) := by decide +kernel
theorem dX1_pointNumber_5 : decode cX1_pointNumber 5 = .ok (.invokestatic 52, 3) := by decide +kernel
theorem dX1_pointNumber_8 : decode cX1_pointNumber 8 = .ok (.aload_n 0, 1) := by decide +kernel
theorem dX1_pointNumber_9 : decode cX1_pointNumber 9 = .ok (.getfield 9, 3) := by decide +kernel
theorem dX1_pointNumber_12 : decode cX1_pointNumber 12 = .ok (.iload_n 2, 1) := by decide +kernel
theorem dX1_pointNumber_13 : decode cX1_pointNumber 13 = .ok (.aload_n 0, 1) := by decide +kernel
theorem dX1_pointNumber_14 : decode cX1_pointNumber 14 = .ok (.getfield 29, 3) := by decide +kernel
theorem dX1_pointNumber_17 : decode cX1_pointNumber 17 = .ok (.imul, 1) := by decide +kernel
theorem dX1_pointNumber_18 : decode cX1_pointNumber 18 = .ok (.aload_n 0, 1) := by decide +kernel
theorem dX1_pointNumber_19 : decode cX1_pointNumber 19 = .ok (.getfield 29, 3) := by decide +kernel
theorem dX1_pointNumber_22 : decode cX1_pointNumber 22 = .ok (.iload_n 1, 1) := by decide +kernel
theorem dX1_pointNumber_23 : decode cX1_pointNumber 23 = .ok (.invokestatic 56, 3) := by decide +kernel
theorem dX1_pointNumber_26 : decode cX1_pointNumber 26 = .ok (.iadd, 1) := by decide +kernel
theorem dX1_pointNumber_27 : decode cX1_pointNumber 27 = .ok (.bipush 97, 2) := by decide +kernel
theorem dX1_pointNumber_29 : decode cX1_pointNumber 29 = .ok (.irem, 1) := by decide +kernel
theorem dX1_pointNumber_30 : decode cX1_pointNumber 30 = .ok (.ireturn, 1) := by decide +kernel
theorem dX1_veilAt_0 : decode cX1_veilAt 0 = .ok (.aload_n 0, 1) := by decide +kernel
theorem dX1_veilAt_1 : decode cX1_veilAt 1 = .ok (.getfield 22, 3) := by decide +kernel
theorem dX1_veilAt_4 : decode cX1_veilAt 4 = .ok (.ifCond .eq 19, 3) := by decide +kernel
theorem dX1_veilAt_7 : decode cX1_veilAt 7 = .ok (.aload_n 0, 1) := by decide +kernel
theorem dX1_veilAt_8 : decode cX1_veilAt 8 = .ok (.getfield 15, 3) := by decide +kernel
theorem dX1_veilAt_11 : decode cX1_veilAt 11 = .ok (.iconst 0, 1) := by decide +kernel
theorem dX1_veilAt_12 : decode cX1_veilAt 12 = .ok (.aload_n 0, 1) := by decide +kernel
theorem dX1_veilAt_13 : decode cX1_veilAt 13 = .ok (.getfield 35, 3) := by decide +kernel
theorem dX1_veilAt_16 : decode cX1_veilAt 16 = .ok (.iload_n 1, 1) := by decide +kernel
theorem dX1_veilAt_17 : decode cX1_veilAt 17 = .ok (.invokestatic 56, 3) := by decide +kernel
theorem dX1_veilAt_20 : decode cX1_veilAt 20 = .ok (.goto 4, 3) := by decide +kernel
theorem dX1_veilAt_23 : decode cX1_veilAt 23 = .ok (.iconst 0, 1) := by decide +kernel
theorem dX1_veilAt_24 : decode cX1_veilAt 24 = .ok (.ireturn, 1) := by decide +kernel
theorem dX1_risen_0 : decode cX1_risen 0 = .ok (.iconst 0, 1) := by decide +kernel
theorem dX1_risen_1 : decode cX1_risen 1 = .ok (.istore 4, 2) := by decide +kernel
theorem dX1_risen_3 : decode cX1_risen 3 = .ok (.iload_n 1, 1) := by decide +kernel
theorem dX1_risen_4 : decode cX1_risen 4 = .ok (.iload_n 2, 1) := by decide +kernel
theorem dX1_risen_5 : decode cX1_risen 5 = .ok (.iadd, 1) := by decide +kernel
theorem dX1_risen_6 : decode cX1_risen 6 = .ok (.iconst 1, 1) := by decide +kernel
theorem dX1_risen_7 : decode cX1_risen 7 = .ok (.isub, 1) := by decide +kernel
theorem dX1_risen_8 : decode cX1_risen 8 = .ok (.istore 5, 2) := by decide +kernel
theorem dX1_risen_10 : decode cX1_risen 10 = .ok (.iload 5, 2) := by decide +kernel
theorem dX1_risen_12 : decode cX1_risen 12 = .ok (.iload_n 1, 1) := by decide +kernel
theorem dX1_risen_13 : decode cX1_risen 13 = .ok (.if_icmp .lt 23, 3) := by decide +kernel
theorem dX1_risen_16 : decode cX1_risen 16 = .ok (.iload 4, 2) := by decide +kernel
theorem dX1_risen_18 : decode cX1_risen 18 = .ok (.aload_n 0, 1) := by decide +kernel
theorem dX1_risen_19 : decode cX1_risen 19 = .ok (.iload 5, 2) := by decide +kernel
theorem dX1_risen_21 : decode cX1_risen 21 = .ok (.iaload, 1) := by decide +kernel
theorem dX1_risen_22 : decode cX1_risen 22 = .ok (.iadd, 1) := by decide +kernel
theorem dX1_risen_23 : decode cX1_risen 23 = .ok (.iload_n 3, 1) := by decide +kernel
theorem dX1_risen_24 : decode cX1_risen 24 = .ok (.imul, 1) := by decide +kernel
theorem dX1_risen_25 : decode cX1_risen 25 = .ok (.bipush 97, 2) := by decide +kernel
theorem dX1_risen_27 : decode cX1_risen 27 = .ok (.irem, 1) := by decide +kernel
theorem dX1_risen_28 : decode cX1_risen 28 = .ok (.istore 4, 2) := by decide +kernel
theorem dX1_risen_30 : decode cX1_risen 30 = .ok (.iinc 5 (-1), 3) := by decide +kernel
theorem dX1_risen_33 : decode cX1_risen 33 = .ok (.goto (-23), 3) := by decide +kernel
theorem dX1_risen_36 : decode cX1_risen 36 = .ok (.iload 4, 2) := by decide +kernel
theorem dX1_risen_38 : decode cX1_risen 38 = .ok (.ireturn, 1) := by decide +kernel
theorem dX1_countWays_0 : decode cX1_countWays 0 = .ok (.aload_n 0, 1) := by decide +kernel
theorem dX1_countWays_1 : decode cX1_countWays 1 = .ok (.getfield 29, 3) := by decide +kernel
theorem dX1_countWays_4 : decode cX1_countWays 4 = .ok (.iload_n 1, 1) := by decide +kernel
theorem dX1_countWays_5 : decode cX1_countWays 5 = .ok (.invokestatic 60, 3) := by decide +kernel
theorem dX1_countWays_8 : decode cX1_countWays 8 = .ok (.isub, 1) := by decide +kernel
theorem dX1_countWays_9 : decode cX1_countWays 9 = .ok (.istore_n 3, 1) := by decide +kernel
theorem dX1_countWays_10 : decode cX1_countWays 10 = .ok (.iload_n 3, 1) := by decide +kernel
theorem dX1_countWays_11 : decode cX1_countWays 11 = .ok (.ifCond .ge 17, 3) := by decide +kernel
theorem dX1_countWays_14 : decode cX1_countWays 14 = .ok (.iload_n 2, 1) := by decide +kernel
theorem dX1_countWays_15 : decode cX1_countWays 15 = .ok (.aload_n 0, 1) := by decide +kernel
theorem dX1_countWays_16 : decode cX1_countWays 16 = .ok (.getfield 25, 3) := by decide +kernel
theorem dX1_countWays_19 : decode cX1_countWays 19 = .ok (.if_icmp .ne 7, 3) := by decide +kernel
theorem dX1_countWays_22 : decode cX1_countWays 22 = .ok (.lconst 1, 1) := by decide +kernel
theorem dX1_countWays_23 : decode cX1_countWays 23 = .ok (.goto 4, 3) := by decide +kernel
theorem dX1_countWays_26 : decode cX1_countWays 26 = .ok (.lconst 0, 1) := by decide +kernel
theorem dX1_countWays_27 : decode cX1_countWays 27 = .ok (.lreturn, 1) := by decide +kernel
theorem dX1_countWays_28 : decode cX1_countWays 28 = .ok (.lconst 1, 1) := by decide +kernel
theorem dX1_countWays_29 : decode cX1_countWays 29 = .ok (.lstore 4, 2) := by decide +kernel
theorem dX1_countWays_31 : decode cX1_countWays 31 = .ok (.iconst 0, 1) := by decide +kernel
theorem dX1_countWays_32 : decode cX1_countWays 32 = .ok (.istore 6, 2) := by decide +kernel
theorem dX1_countWays_34 : decode cX1_countWays 34 = .ok (.iload 6, 2) := by decide +kernel
theorem dX1_countWays_36 : decode cX1_countWays 36 = .ok (.iload_n 3, 1) := by decide +kernel
theorem dX1_countWays_37 : decode cX1_countWays 37 = .ok (.aload_n 0, 1) := by decide +kernel
theorem dX1_countWays_38 : decode cX1_countWays 38 = .ok (.getfield 32, 3) := by decide +kernel
theorem dX1_countWays_41 : decode cX1_countWays 41 = .ok (.imul, 1) := by decide +kernel
theorem dX1_countWays_42 : decode cX1_countWays 42 = .ok (.if_icmp .ge 17, 3) := by decide +kernel
theorem dX1_countWays_45 : decode cX1_countWays 45 = .ok (.lload 4, 2) := by decide +kernel
theorem dX1_countWays_47 : decode cX1_countWays 47 = .ok (.ldc2_w 50, 3) := by decide +kernel
theorem dX1_countWays_50 : decode cX1_countWays 50 = .ok (.lmul, 1) := by decide +kernel
theorem dX1_countWays_51 : decode cX1_countWays 51 = .ok (.lstore 4, 2) := by decide +kernel
theorem dX1_countWays_53 : decode cX1_countWays 53 = .ok (.iinc 6 1, 3) := by decide +kernel
theorem dX1_countWays_56 : decode cX1_countWays 56 = .ok (.goto (-22), 3) := by decide +kernel
theorem dX1_countWays_59 : decode cX1_countWays 59 = .ok (.lload 4, 2) := by decide +kernel
theorem dX1_countWays_61 : decode cX1_countWays 61 = .ok (.lreturn, 1) := by decide +kernel
theorem dX2_init_0 : decode cX2_init 0 = .ok (.aload_n 0, 1) := by decide +kernel
theorem dX2_init_1 : decode cX2_init 1 = .ok (.invokespecial 3, 3) := by decide +kernel
theorem dX2_init_4 : decode cX2_init 4 = .ok (.aload_n 0, 1) := by decide +kernel
theorem dX2_init_5 : decode cX2_init 5 = .ok (.bipush 9, 2) := by decide +kernel
theorem dX2_init_7 : decode cX2_init 7 = .ok (.newarray .int, 2) := by decide +kernel
theorem dX2_init_9 : decode cX2_init 9 = .ok (.putfield 9, 3) := by decide +kernel
theorem dX2_init_12 : decode cX2_init 12 = .ok (.aload_n 0, 1) := by decide +kernel
theorem dX2_init_13 : decode cX2_init 13 = .ok (.bipush 9, 2) := by decide +kernel
theorem dX2_init_15 : decode cX2_init 15 = .ok (.newarray .int, 2) := by decide +kernel
theorem dX2_init_17 : decode cX2_init 17 = .ok (.putfield 15, 3) := by decide +kernel
theorem dX2_init_20 : decode cX2_init 20 = .ok (.aload_n 0, 1) := by decide +kernel
theorem dX2_init_21 : decode cX2_init 21 = .ok (.iconst 0, 1) := by decide +kernel
theorem dX2_init_22 : decode cX2_init 22 = .ok (.putfield 18, 3) := by decide +kernel
theorem dX2_init_25 : decode cX2_init 25 = .ok (.return_, 1) := by decide +kernel
theorem dX2_add_0 : decode cX2_add 0 = .ok (.aload_n 0, 1) := by decide +kernel
theorem dX2_add_1 : decode cX2_add 1 = .ok (.getfield 18, 3) := by decide +kernel
theorem dX2_add_4 : decode cX2_add 4 = .ok (.bipush 9, 2) := by decide +kernel
theorem dX2_add_6 : decode cX2_add 6 = .ok (.if_icmp .ge 33, 3) := by decide +kernel
theorem dX2_add_9 : decode cX2_add 9 = .ok (.aload_n 0, 1) := by decide +kernel
theorem dX2_add_10 : decode cX2_add 10 = .ok (.getfield 9, 3) := by decide +kernel
theorem dX2_add_13 : decode cX2_add 13 = .ok (.aload_n 0, 1) := by decide +kernel
theorem dX2_add_14 : decode cX2_add 14 = .ok (.getfield 18, 3) := by decide +kernel
theorem dX2_add_17 : decode cX2_add 17 = .ok (.iload_n 1, 1) := by decide +kernel
theorem dX2_add_18 : decode cX2_add 18 = .ok (.iastore, 1) := by decide +kernel
theorem dX2_add_19 : decode cX2_add 19 = .ok (.aload_n 0, 1) := by decide +kernel
theorem dX2_add_20 : decode cX2_add 20 = .ok (.getfield 15, 3) := by decide +kernel
theorem dX2_add_23 : decode cX2_add 23 = .ok (.aload_n 0, 1) := by decide +kernel
theorem dX2_add_24 : decode cX2_add 24 = .ok (.getfield 18, 3) := by decide +kernel
theorem dX2_add_27 : decode cX2_add 27 = .ok (.iload_n 2, 1) := by decide +kernel
theorem dX2_add_28 : decode cX2_add 28 = .ok (.iastore, 1) := by decide +kernel
theorem dX2_add_29 : decode cX2_add 29 = .ok (.aload_n 0, 1) := by decide +kernel
theorem dX2_add_30 : decode cX2_add 30 = .ok (.dup, 1) := by decide +kernel
theorem dX2_add_31 : decode cX2_add 31 = .ok (.getfield 18, 3) := by decide +kernel
theorem dX2_add_34 : decode cX2_add 34 = .ok (.iconst 1, 1) := by decide +kernel
theorem dX2_add_35 : decode cX2_add 35 = .ok (.iadd, 1) := by decide +kernel
theorem dX2_add_36 : decode cX2_add 36 = .ok (.putfield 18, 3) := by decide +kernel
theorem dX2_add_39 : decode cX2_add 39 = .ok (.return_, 1) := by decide +kernel
theorem dX2_isOn_0 : decode cX2_isOn 0 = .ok (.aload_n 1, 1) := by decide +kernel
theorem dX2_isOn_1 : decode cX2_isOn 1 = .ok (.aload_n 0, 1) := by decide +kernel
theorem dX2_isOn_2 : decode cX2_isOn 2 = .ok (.getfield 9, 3) := by decide +kernel
theorem dX2_isOn_5 : decode cX2_isOn 5 = .ok (.iload_n 2, 1) := by decide +kernel
theorem dX2_isOn_6 : decode cX2_isOn 6 = .ok (.iaload, 1) := by decide +kernel
theorem dX2_isOn_7 : decode cX2_isOn 7 = .ok (.invokevirtual 22, 3) := by decide +kernel
theorem dX2_isOn_10 : decode cX2_isOn 10 = .ok (.aload_n 0, 1) := by decide +kernel
theorem dX2_isOn_11 : decode cX2_isOn 11 = .ok (.getfield 15, 3) := by decide +kernel
theorem dX2_isOn_14 : decode cX2_isOn 14 = .ok (.iload_n 2, 1) := by decide +kernel
theorem dX2_isOn_15 : decode cX2_isOn 15 = .ok (.iaload, 1) := by decide +kernel
theorem dX2_isOn_16 : decode cX2_isOn 16 = .ok (.if_icmp .ne 7, 3) := by decide +kernel
theorem dX2_isOn_19 : decode cX2_isOn 19 = .ok (.iconst 1, 1) := by decide +kernel
theorem dX2_isOn_20 : decode cX2_isOn 20 = .ok (.goto 4, 3) := by decide +kernel
theorem dX2_isOn_23 : decode cX2_isOn 23 = .ok (.iconst 0, 1) := by decide +kernel
theorem dX2_isOn_24 : decode cX2_isOn 24 = .ok (.ireturn, 1) := by decide +kernel
theorem dX2_countOn_0 : decode cX2_countOn 0 = .ok (.iconst 0, 1) := by decide +kernel
theorem dX2_countOn_1 : decode cX2_countOn 1 = .ok (.istore_n 2, 1) := by decide +kernel
theorem dX2_countOn_2 : decode cX2_countOn 2 = .ok (.iconst 0, 1) := by decide +kernel
theorem dX2_countOn_3 : decode cX2_countOn 3 = .ok (.istore_n 3, 1) := by decide +kernel
theorem dX2_countOn_4 : decode cX2_countOn 4 = .ok (.iload_n 3, 1) := by decide +kernel
theorem dX2_countOn_5 : decode cX2_countOn 5 = .ok (.aload_n 0, 1) := by decide +kernel
theorem dX2_countOn_6 : decode cX2_countOn 6 = .ok (.getfield 18, 3) := by decide +kernel
theorem dX2_countOn_9 : decode cX2_countOn 9 = .ok (.if_icmp .ge 21, 3) := by decide +kernel
theorem dX2_countOn_12 : decode cX2_countOn 12 = .ok (.aload_n 0, 1) := by decide +kernel
theorem dX2_countOn_13 : decode cX2_countOn 13 = .ok (.aload_n 1, 1) := by decide +kernel
theorem dX2_countOn_14 : decode cX2_countOn 14 = .ok (.iload_n 3, 1) := by decide +kernel
theorem dX2_countOn_15 : decode cX2_countOn 15 = .ok (.invokevirtual 28, 3) := by decide +kernel
theorem dX2_countOn_18 : decode cX2_countOn 18 = .ok (.ifCond .eq 6, 3) := by decide +kernel
theorem dX2_countOn_21 : decode cX2_countOn 21 = .ok (.iinc 2 1, 3) := by decide +kernel
theorem dX2_countOn_24 : decode cX2_countOn 24 = .ok (.iinc 3 1, 3) := by decide +kernel
theorem dX2_countOn_27 : decode cX2_countOn 27 = .ok (.goto (-23), 3) := by decide +kernel
theorem dX2_countOn_30 : decode cX2_countOn 30 = .ok (.iload_n 2, 1) := by decide +kernel
theorem dX2_countOn_31 : decode cX2_countOn 31 = .ok (.ireturn, 1) := by decide +kernel
theorem dX2_storesOff_0 : decode cX2_storesOff 0 = .ok (.iconst 0, 1) := by decide +kernel
theorem dX2_storesOff_1 : decode cX2_storesOff 1 = .ok (.istore_n 2, 1) := by decide +kernel
theorem dX2_storesOff_2 : decode cX2_storesOff 2 = .ok (.iconst 0, 1) := by decide +kernel
theorem dX2_storesOff_3 : decode cX2_storesOff 3 = .ok (.istore_n 3, 1) := by decide +kernel
theorem dX2_storesOff_4 : decode cX2_storesOff 4 = .ok (.iload_n 3, 1) := by decide +kernel
theorem dX2_storesOff_5 : decode cX2_storesOff 5 = .ok (.aload_n 0, 1) := by decide +kernel
theorem dX2_storesOff_6 : decode cX2_storesOff 6 = .ok (.getfield 18, 3) := by decide +kernel
theorem dX2_storesOff_9 : decode cX2_storesOff 9 = .ok (.if_icmp .ge 29, 3) := by decide +kernel
theorem dX2_storesOff_12 : decode cX2_storesOff 12 = .ok (.aload_n 0, 1) := by decide +kernel
theorem dX2_storesOff_13 : decode cX2_storesOff 13 = .ok (.aload_n 1, 1) := by decide +kernel
theorem dX2_storesOff_14 : decode cX2_storesOff 14 = .ok (.iload_n 3, 1) := by decide +kernel
theorem dX2_storesOff_15 : decode cX2_storesOff 15 = .ok (.invokevirtual 28, 3) := by decide +kernel
theorem dX2_storesOff_18 : decode cX2_storesOff 18 = .ok (.ifCond .ne 14, 3) := by decide +kernel
theorem dX2_storesOff_21 : decode cX2_storesOff 21 = .ok (.iload_n 2, 1) := by decide +kernel
theorem dX2_storesOff_22 : decode cX2_storesOff 22 = .ok (.iconst 1, 1) := by decide +kernel
theorem dX2_storesOff_23 : decode cX2_storesOff 23 = .ok (.aload_n 0, 1) := by decide +kernel
theorem dX2_storesOff_24 : decode cX2_storesOff 24 = .ok (.getfield 9, 3) := by decide +kernel
theorem dX2_storesOff_27 : decode cX2_storesOff 27 = .ok (.iload_n 3, 1) := by decide +kernel
theorem dX2_storesOff_28 : decode cX2_storesOff 28 = .ok (.iaload, 1) := by decide +kernel
theorem dX2_storesOff_29 : decode cX2_storesOff 29 = .ok (.ishl, 1) := by decide +kernel
theorem dX2_storesOff_30 : decode cX2_storesOff 30 = .ok (.ior, 1) := by decide +kernel
theorem dX2_storesOff_31 : decode cX2_storesOff 31 = .ok (.istore_n 2, 1) := by decide +kernel
theorem dX2_storesOff_32 : decode cX2_storesOff 32 = .ok (.iinc 3 1, 3) := by decide +kernel
theorem dX2_storesOff_35 : decode cX2_storesOff 35 = .ok (.goto (-31), 3) := by decide +kernel
theorem dX2_storesOff_38 : decode cX2_storesOff 38 = .ok (.iload_n 2, 1) := by decide +kernel
theorem dX2_storesOff_39 : decode cX2_storesOff 39 = .ok (.ireturn, 1) := by decide +kernel
theorem dX3_init_0 : decode cX3_init 0 = .ok (.aload_n 0, 1) := by decide +kernel
theorem dX3_init_1 : decode cX3_init 1 = .ok (.invokespecial 3, 3) := by decide +kernel
theorem dX3_init_4 : decode cX3_init 4 = .ok (.aload_n 0, 1) := by decide +kernel
theorem dX3_init_5 : decode cX3_init 5 = .ok (.bipush 8, 2) := by decide +kernel
theorem dX3_init_7 : decode cX3_init 7 = .ok (.newarray .int, 2) := by decide +kernel
theorem dX3_init_9 : decode cX3_init 9 = .ok (.putfield 9, 3) := by decide +kernel
theorem dX3_init_12 : decode cX3_init 12 = .ok (.aload_n 0, 1) := by decide +kernel
theorem dX3_init_13 : decode cX3_init 13 = .ok (.iconst 0, 1) := by decide +kernel
theorem dX3_init_14 : decode cX3_init 14 = .ok (.putfield 15, 3) := by decide +kernel
theorem dX3_init_17 : decode cX3_init 17 = .ok (.aload_n 0, 1) := by decide +kernel
theorem dX3_init_18 : decode cX3_init 18 = .ok (.iconst 0, 1) := by decide +kernel
theorem dX3_init_19 : decode cX3_init 19 = .ok (.putfield 19, 3) := by decide +kernel
theorem dX3_init_22 : decode cX3_init 22 = .ok (.return_, 1) := by decide +kernel
theorem dX3_become_0 : decode cX3_become 0 = .ok (.aload_n 0, 1) := by decide +kernel
theorem dX3_become_1 : decode cX3_become 1 = .ok (.iload_n 1, 1) := by decide +kernel
theorem dX3_become_2 : decode cX3_become 2 = .ok (.putfield 15, 3) := by decide +kernel
theorem dX3_become_5 : decode cX3_become 5 = .ok (.aload_n 0, 1) := by decide +kernel
theorem dX3_become_6 : decode cX3_become 6 = .ok (.iload_n 1, 1) := by decide +kernel
theorem dX3_become_7 : decode cX3_become 7 = .ok (.iconst 1, 1) := by decide +kernel
theorem dX3_become_8 : decode cX3_become 8 = .ok (.if_icmp .ne 7, 3) := by decide +kernel
theorem dX3_become_11 : decode cX3_become 11 = .ok (.iload_n 2, 1) := by decide +kernel
theorem dX3_become_12 : decode cX3_become 12 = .ok (.goto 4, 3) := by decide +kernel
theorem dX3_become_15 : decode cX3_become 15 = .ok (.iconst 0, 1) := by decide +kernel
theorem dX3_become_16 : decode cX3_become 16 = .ok (.putfield 19, 3) := by decide +kernel
theorem dX3_become_19 : decode cX3_become 19 = .ok (.iload_n 1, 1) := by decide +kernel
theorem dX3_become_20 : decode cX3_become 20 = .ok (.iconst 2, 1) := by decide +kernel
theorem dX3_become_21 : decode cX3_become 21 = .ok (.if_icmp .ne 15, 3) := by decide +kernel
theorem dX3_become_24 : decode cX3_become 24 = .ok (.aload_n 3, 1) := by decide +kernel
theorem dX3_become_25 : decode cX3_become 25 = .ok (.iconst 0, 1) := by decide +kernel
theorem dX3_become_26 : decode cX3_become 26 = .ok (.aload_n 0, 1) := by decide +kernel
theorem dX3_become_27 : decode cX3_become 27 = .ok (.getfield 9, 3) := by decide +kernel
theorem dX3_become_30 : decode cX3_become 30 = .ok (.iconst 0, 1) := by decide +kernel
theorem dX3_become_31 : decode cX3_become 31 = .ok (.bipush 8, 2) := by decide +kernel
theorem dX3_become_33 : decode cX3_become 33 = .ok (.invokestatic 22, 3) := by decide +kernel
theorem dX3_become_36 : decode cX3_become 36 = .ok (.return_, 1) := by decide +kernel
theorem dX3_held_0 : decode cX3_held 0 = .ok (.aload_n 0, 1) := by decide +kernel
theorem dX3_held_1 : decode cX3_held 1 = .ok (.getfield 15, 3) := by decide +kernel
theorem dX3_held_4 : decode cX3_held 4 = .ok (.iconst 2, 1) := by decide +kernel
theorem dX3_held_5 : decode cX3_held 5 = .ok (.if_icmp .ne 10, 3) := by decide +kernel
theorem dX3_held_8 : decode cX3_held 8 = .ok (.aload_n 0, 1) := by decide +kernel
theorem dX3_held_9 : decode cX3_held 9 = .ok (.getfield 9, 3) := by decide +kernel
theorem dX3_held_12 : decode cX3_held 12 = .ok (.goto 4, 3) := by decide +kernel
theorem dX3_held_15 : decode cX3_held 15 = .ok (.aload_n 1, 1) := by decide +kernel
theorem dX3_held_16 : decode cX3_held 16 = .ok (.areturn, 1) := by decide +kernel
theorem dX4_init_0 : decode cX4_init 0 = .ok (.aload_n 0, 1) := by decide +kernel
theorem dX4_init_1 : decode cX4_init 1 = .ok (.invokespecial 1, 3) := by decide +kernel
theorem dX4_init_4 : decode cX4_init 4 = .ok (.aload_n 0, 1) := by decide +kernel
theorem dX4_init_5 : decode cX4_init 5 = .ok (.bipush 8, 2) := by decide +kernel
theorem dX4_init_7 : decode cX4_init 7 = .ok (.newarray .int, 2) := by decide +kernel
theorem dX4_init_9 : decode cX4_init 9 = .ok (.putfield 9, 3) := by decide +kernel
theorem dX4_init_12 : decode cX4_init 12 = .ok (.aload_n 0, 1) := by decide +kernel
theorem dX4_init_13 : decode cX4_init 13 = .ok (.iconst 3, 1) := by decide +kernel
theorem dX4_init_14 : decode cX4_init 14 = .ok (.newarray .int, 2) := by decide +kernel
theorem dX4_init_16 : decode cX4_init 16 = .ok (.putfield 13, 3) := by decide +kernel
theorem dX4_init_19 : decode cX4_init 19 = .ok (.aload_n 0, 1) := by decide +kernel
theorem dX4_init_20 : decode cX4_init 20 = .ok (.bipush 9, 2) := by decide +kernel
theorem dX4_init_22 : decode cX4_init 22 = .ok (.anewarray 16, 3) := by decide +kernel
theorem dX4_init_25 : decode cX4_init 25 = .ok (.putfield 18, 3) := by decide +kernel
theorem dX4_init_28 : decode cX4_init 28 = .ok (.aload_n 0, 1) := by decide +kernel
theorem dX4_init_29 : decode cX4_init 29 = .ok (.new 22, 3) := by decide +kernel
theorem dX4_init_32 : decode cX4_init 32 = .ok (.dup, 1) := by decide +kernel
theorem dX4_init_33 : decode cX4_init 33 = .ok (.invokespecial 24, 3) := by decide +kernel
theorem dX4_init_36 : decode cX4_init 36 = .ok (.putfield 25, 3) := by decide +kernel
theorem dX4_init_39 : decode cX4_init 39 = .ok (.aload_n 0, 1) := by decide +kernel
theorem dX4_init_40 : decode cX4_init 40 = .ok (.new 29, 3) := by decide +kernel
theorem dX4_init_43 : decode cX4_init 43 = .ok (.dup, 1) := by decide +kernel
theorem dX4_init_44 : decode cX4_init 44 = .ok (.invokespecial 31, 3) := by decide +kernel
theorem dX4_init_47 : decode cX4_init 47 = .ok (.putfield 32, 3) := by decide +kernel
theorem dX4_init_50 : decode cX4_init 50 = .ok (.aload_n 0, 1) := by decide +kernel
theorem dX4_init_51 : decode cX4_init 51 = .ok (.new 36, 3) := by decide +kernel
theorem dX4_init_54 : decode cX4_init 54 = .ok (.dup, 1) := by decide +kernel
theorem dX4_init_55 : decode cX4_init 55 = .ok (.invokespecial 38, 3) := by decide +kernel
theorem dX4_init_58 : decode cX4_init 58 = .ok (.putfield 39, 3) := by decide +kernel
theorem dX4_init_61 : decode cX4_init 61 = .ok (.aload_n 0, 1) := by decide +kernel
theorem dX4_init_62 : decode cX4_init 62 = .ok (.iconst 1, 1) := by decide +kernel
theorem dX4_init_63 : decode cX4_init 63 = .ok (.putfield 43, 3) := by decide +kernel
theorem dX4_init_66 : decode cX4_init 66 = .ok (.aload_n 0, 1) := by decide +kernel
theorem dX4_init_67 : decode cX4_init 67 = .ok (.iconst 0, 1) := by decide +kernel
theorem dX4_init_68 : decode cX4_init 68 = .ok (.putfield 47, 3) := by decide +kernel
theorem dX4_init_71 : decode cX4_init 71 = .ok (.aload_n 0, 1) := by decide +kernel
theorem dX4_init_72 : decode cX4_init 72 = .ok (.iconst 0, 1) := by decide +kernel
theorem dX4_init_73 : decode cX4_init 73 = .ok (.putfield 50, 3) := by decide +kernel
theorem dX4_init_76 : decode cX4_init 76 = .ok (.aload_n 0, 1) := by decide +kernel
theorem dX4_init_77 : decode cX4_init 77 = .ok (.iconst 0, 1) := by decide +kernel
theorem dX4_init_78 : decode cX4_init 78 = .ok (.putfield 53, 3) := by decide +kernel
theorem dX4_init_81 : decode cX4_init 81 = .ok (.aload_n 0, 1) := by decide +kernel
theorem dX4_init_82 : decode cX4_init 82 = .ok (.iconst 0, 1) := by decide +kernel
theorem dX4_init_83 : decode cX4_init 83 = .ok (.putfield 56, 3) := by decide +kernel
theorem dX4_init_86 : decode cX4_init 86 = .ok (.iconst 0, 1) := by decide +kernel
theorem dX4_init_87 : decode cX4_init 87 = .ok (.istore_n 1, 1) := by decide +kernel
theorem dX4_init_88 : decode cX4_init 88 = .ok (.iload_n 1, 1) := by decide +kernel
theorem dX4_init_89 : decode cX4_init 89 = .ok (.bipush 9, 2) := by decide +kernel
theorem dX4_init_91 : decode cX4_init 91 = .ok (.if_icmp .ge 22, 3) := by decide +kernel
theorem dX4_init_94 : decode cX4_init 94 = .ok (.aload_n 0, 1) := by decide +kernel
theorem dX4_init_95 : decode cX4_init 95 = .ok (.getfield 18, 3) := by decide +kernel
theorem dX4_init_98 : decode cX4_init 98 = .ok (.iload_n 1, 1) := by decide +kernel
theorem dX4_init_99 : decode cX4_init 99 = .ok (.new 16, 3) := by decide +kernel
theorem dX4_init_102 : decode cX4_init 102 = .ok (.dup, 1) := by decide +kernel
theorem dX4_init_103 : decode cX4_init 103 = .ok (.invokespecial 59, 3) := by decide +kernel
theorem dX4_init_106 : decode cX4_init 106 = .ok (.aastore, 1) := by decide +kernel
theorem dX4_init_107 : decode cX4_init 107 = .ok (.iinc 1 1, 3) := by decide +kernel
theorem dX4_init_110 : decode cX4_init 110 = .ok (.goto (-22), 3) := by decide +kernel
theorem dX4_init_113 : decode cX4_init 113 = .ok (.return_, 1) := by decide +kernel
theorem dX4_records_0 : decode cX4_records 0 = .ok (.iload_n 1, 1) := by decide +kernel
theorem dX4_records_1 : decode cX4_records 1 = .ok (.iconst 1, 1) := by decide +kernel
theorem dX4_records_2 : decode cX4_records 2 = .ok (.if_icmp .lt 8, 3) := by decide +kernel
theorem dX4_records_5 : decode cX4_records 5 = .ok (.iload_n 1, 1) := by decide +kernel
theorem dX4_records_6 : decode cX4_records 6 = .ok (.iconst 3, 1) := by decide +kernel
theorem dX4_records_7 : decode cX4_records 7 = .ok (.if_icmp .le 6, 3) := by decide +kernel
theorem dX4_records_10 : decode cX4_records 10 = .ok (.bipush (-2), 2) := by decide +kernel
theorem dX4_records_12 : decode cX4_records 12 = .ok (.ireturn, 1) := by decide +kernel
theorem dX4_records_13 : decode cX4_records 13 = .ok (.aload_n 0, 1) := by decide +kernel
theorem dX4_records_14 : decode cX4_records 14 = .ok (.invokevirtual 60, 3) := by decide +kernel
theorem dX4_records_17 : decode cX4_records 17 = .ok (.istore_n 2, 1) := by decide +kernel
theorem dX4_records_18 : decode cX4_records 18 = .ok (.aload_n 0, 1) := by decide +kernel
theorem dX4_records_19 : decode cX4_records 19 = .ok (.iload_n 1, 1) := by decide +kernel
theorem dX4_records_20 : decode cX4_records 20 = .ok (.putfield 43, 3) := by decide +kernel
theorem dX4_records_23 : decode cX4_records 23 = .ok (.iconst 0, 1) := by decide +kernel
theorem dX4_records_24 : decode cX4_records 24 = .ok (.istore_n 3, 1) := by decide +kernel
theorem dX4_records_25 : decode cX4_records 25 = .ok (.iload_n 3, 1) := by decide +kernel
theorem dX4_records_26 : decode cX4_records 26 = .ok (.bipush 8, 2) := by decide +kernel
theorem dX4_records_28 : decode cX4_records 28 = .ok (.if_icmp .ge 16, 3) := by decide +kernel
theorem dX4_records_31 : decode cX4_records 31 = .ok (.aload_n 0, 1) := by decide +kernel
theorem dX4_records_32 : decode cX4_records 32 = .ok (.getfield 9, 3) := by decide +kernel
theorem dX4_records_35 : decode cX4_records 35 = .ok (.iload_n 3, 1) := by decide +kernel
theorem dX4_records_36 : decode cX4_records 36 = .ok (.iconst 0, 1) := by decide +kernel
theorem dX4_records_37 : decode cX4_records 37 = .ok (.iastore, 1) := by decide +kernel
theorem dX4_records_38 : decode cX4_records 38 = .ok (.iinc 3 1, 3) := by decide +kernel
theorem dX4_records_41 : decode cX4_records 41 = .ok (.goto (-16), 3) := by decide +kernel
theorem dX4_records_44 : decode cX4_records 44 = .ok (.iconst 1, 1) := by decide +kernel
theorem dX4_records_45 : decode cX4_records 45 = .ok (.istore_n 3, 1) := by decide +kernel
theorem dX4_records_46 : decode cX4_records 46 = .ok (.iload_n 3, 1) := by decide +kernel
theorem dX4_records_47 : decode cX4_records 47 = .ok (.bipush 9, 2) := by decide +kernel
theorem dX4_records_49 : decode cX4_records 49 = .ok (.if_icmp .gt 23, 3) := by decide +kernel
theorem dX4_records_52 : decode cX4_records 52 = .ok (.aload_n 0, 1) := by decide +kernel
theorem dX4_records_53 : decode cX4_records 53 = .ok (.iload_n 3, 1) := by decide +kernel
theorem dX4_records_54 : decode cX4_records 54 = .ok (.invokevirtual 64, 3) := by decide +kernel
theorem dX4_records_57 : decode cX4_records 57 = .ok (.iconst 0, 1) := by decide +kernel
theorem dX4_records_58 : decode cX4_records 58 = .ok (.iconst 0, 1) := by decide +kernel
theorem dX4_records_59 : decode cX4_records 59 = .ok (.aload_n 0, 1) := by decide +kernel
theorem dX4_records_60 : decode cX4_records 60 = .ok (.getfield 9, 3) := by decide +kernel
theorem dX4_records_63 : decode cX4_records 63 = .ok (.invokevirtual 68, 3) := by decide +kernel
theorem dX4_records_66 : decode cX4_records 66 = .ok (.iinc 3 1, 3) := by decide +kernel
theorem dX4_records_69 : decode cX4_records 69 = .ok (.goto (-23), 3) := by decide +kernel
theorem dX4_records_72 : decode cX4_records 72 = .ok (.aload_n 0, 1) := by decide +kernel
theorem dX4_records_73 : decode cX4_records 73 = .ok (.getfield 25, 3) := by decide +kernel
theorem dX4_records_76 : decode cX4_records 76 = .ok (.iconst 0, 1) := by decide +kernel
theorem dX4_records_77 : decode cX4_records 77 = .ok (.putfield 72, 3) := by decide +kernel
theorem dX4_records_80 : decode cX4_records 80 = .ok (.iload_n 2, 1) := by decide +kernel
theorem dX4_records_81 : decode cX4_records 81 = .ok (.ireturn, 1) := by decide +kernel
theorem dX4_put_0 : decode cX4_put 0 = .ok (.aload_n 0, 1) := by decide +kernel
theorem dX4_put_1 : decode cX4_put 1 = .ok (.iload_n 1, 1) := by decide +kernel
theorem dX4_put_2 : decode cX4_put 2 = .ok (.invokevirtual 76, 3) := by decide +kernel
theorem dX4_put_5 : decode cX4_put 5 = .ok (.ifCond .ne 5, 3) := by decide +kernel
theorem dX4_put_8 : decode cX4_put 8 = .ok (.iconst (-1), 1) := by decide +kernel
theorem dX4_put_9 : decode cX4_put 9 = .ok (.ireturn, 1) := by decide +kernel
theorem dX4_put_10 : decode cX4_put 10 = .ok (.iload_n 2, 1) := by decide +kernel
theorem dX4_put_11 : decode cX4_put 11 = .ok (.invokestatic 80, 3) := by decide +kernel
theorem dX4_put_14 : decode cX4_put 14 = .ok (.ifCond .ne 6, 3) := by decide +kernel
theorem dX4_put_17 : decode cX4_put 17 = .ok (.bipush (-2), 2) := by decide +kernel
theorem dX4_put_19 : decode cX4_put 19 = .ok (.ireturn, 1) := by decide +kernel
theorem dX4_put_20 : decode cX4_put 20 = .ok (.aload_n 0, 1) := by decide +kernel
theorem dX4_put_21 : decode cX4_put 21 = .ok (.getfield 9, 3) := by decide +kernel
theorem dX4_put_24 : decode cX4_put 24 = .ok (.iload_n 1, 1) := by decide +kernel
theorem dX4_put_25 : decode cX4_put 25 = .ok (.iaload, 1) := by decide +kernel
theorem dX4_put_26 : decode cX4_put 26 = .ok (.istore_n 3, 1) := by decide +kernel
theorem dX4_put_27 : decode cX4_put 27 = .ok (.aload_n 0, 1) := by decide +kernel
theorem dX4_put_28 : decode cX4_put 28 = .ok (.getfield 9, 3) := by decide +kernel
theorem dX4_put_31 : decode cX4_put 31 = .ok (.iload_n 1, 1) := by decide +kernel
theorem dX4_put_32 : decode cX4_put 32 = .ok (.iload_n 2, 1) := by decide +kernel
theorem dX4_put_33 : decode cX4_put 33 = .ok (.iastore, 1) := by decide +kernel
theorem dX4_put_34 : decode cX4_put 34 = .ok (.iload_n 3, 1) := by decide +kernel
theorem dX4_put_35 : decode cX4_put 35 = .ok (.ireturn, 1) := by decide +kernel
theorem dX4_record_0 : decode cX4_record 0 = .ok (.aload_n 0, 1) := by decide +kernel
theorem dX4_record_1 : decode cX4_record 1 = .ok (.iload_n 1, 1) := by decide +kernel
theorem dX4_record_2 : decode cX4_record 2 = .ok (.invokevirtual 76, 3) := by decide +kernel
theorem dX4_record_5 : decode cX4_record 5 = .ok (.ifCond .eq 12, 3) := by decide +kernel
theorem dX4_record_8 : decode cX4_record 8 = .ok (.aload_n 0, 1) := by decide +kernel
theorem dX4_record_9 : decode cX4_record 9 = .ok (.getfield 9, 3) := by decide +kernel
theorem dX4_record_12 : decode cX4_record 12 = .ok (.iload_n 1, 1) := by decide +kernel
theorem dX4_record_13 : decode cX4_record 13 = .ok (.iaload, 1) := by decide +kernel
theorem dX4_record_14 : decode cX4_record 14 = .ok (.goto 4, 3) := by decide +kernel
theorem dX4_record_17 : decode cX4_record 17 = .ok (.iconst (-1), 1) := by decide +kernel
theorem dX4_record_18 : decode cX4_record 18 = .ok (.ireturn, 1) := by decide +kernel
theorem dX4_store_0 : decode cX4_store 0 = .ok (.iload_n 1, 1) := by decide +kernel
theorem dX4_store_1 : decode cX4_store 1 = .ok (.invokestatic 83, 3) := by decide +kernel
theorem dX4_store_4 : decode cX4_store 4 = .ok (.ifCond .ne 5, 3) := by decide +kernel
theorem dX4_store_7 : decode cX4_store 7 = .ok (.iconst (-1), 1) := by decide +kernel
theorem dX4_store_8 : decode cX4_store 8 = .ok (.ireturn, 1) := by decide +kernel
theorem dX4_store_9 : decode cX4_store 9 = .ok (.iload_n 2, 1) := by decide +kernel
theorem dX4_store_10 : decode cX4_store 10 = .ok (.invokestatic 86, 3) := by decide +kernel
theorem dX4_store_13 : decode cX4_store 13 = .ok (.ifCond .eq 15, 3) := by decide +kernel
theorem dX4_store_16 : decode cX4_store 16 = .ok (.iload_n 2, 1) := by decide +kernel
theorem dX4_store_17 : decode cX4_store 17 = .ok (.iconst 1, 1) := by decide +kernel
theorem dX4_store_18 : decode cX4_store 18 = .ok (.if_icmp .ne 13, 3) := by decide +kernel
theorem dX4_store_21 : decode cX4_store 21 = .ok (.iload_n 3, 1) := by decide +kernel
theorem dX4_store_22 : decode cX4_store 22 = .ok (.invokestatic 89, 3) := by decide +kernel
theorem dX4_store_25 : decode cX4_store 25 = .ok (.ifCond .ne 6, 3) := by decide +kernel
theorem dX4_store_28 : decode cX4_store 28 = .ok (.bipush (-2), 2) := by decide +kernel
theorem dX4_store_30 : decode cX4_store 30 = .ok (.ireturn, 1) := by decide +kernel
theorem dX4_store_31 : decode cX4_store 31 = .ok (.aload_n 0, 1) := by decide +kernel
theorem dX4_store_32 : decode cX4_store 32 = .ok (.iload_n 1, 1) := by decide +kernel
theorem dX4_store_33 : decode cX4_store 33 = .ok (.invokevirtual 64, 3) := by decide +kernel
theorem dX4_store_36 : decode cX4_store 36 = .ok (.astore 4, 2) := by decide +kernel
theorem dX4_store_38 : decode cX4_store 38 = .ok (.aload 4, 2) := by decide +kernel
theorem dX4_store_40 : decode cX4_store 40 = .ok (.getfield 92, 3) := by decide +kernel
theorem dX4_store_43 : decode cX4_store 43 = .ok (.istore 5, 2) := by decide +kernel
theorem dX4_store_45 : decode cX4_store 45 = .ok (.aload 4, 2) := by decide +kernel
theorem dX4_store_47 : decode cX4_store 47 = .ok (.iload_n 2, 1) := by decide +kernel
theorem dX4_store_48 : decode cX4_store 48 = .ok (.iload_n 3, 1) := by decide +kernel
theorem dX4_store_49 : decode cX4_store 49 = .ok (.aload_n 0, 1) := by decide +kernel
theorem dX4_store_50 : decode cX4_store 50 = .ok (.getfield 9, 3) := by decide +kernel
theorem dX4_store_53 : decode cX4_store 53 = .ok (.invokevirtual 68, 3) := by decide +kernel
theorem dX4_store_56 : decode cX4_store 56 = .ok (.iload 5, 2) := by decide +kernel
theorem dX4_store_58 : decode cX4_store 58 = .ok (.ireturn, 1) := by decide +kernel
theorem dX4_taken_0 : decode cX4_taken 0 = .ok (.iload_n 1, 1) := by decide +kernel
theorem dX4_taken_1 : decode cX4_taken 1 = .ok (.invokestatic 83, 3) := by decide +kernel
theorem dX4_taken_4 : decode cX4_taken 4 = .ok (.ifCond .ne 5, 3) := by decide +kernel
theorem dX4_taken_7 : decode cX4_taken 7 = .ok (.iconst (-1), 1) := by decide +kernel
theorem dX4_taken_8 : decode cX4_taken 8 = .ok (.ireturn, 1) := by decide +kernel
theorem dX4_taken_9 : decode cX4_taken 9 = .ok (.iload_n 2, 1) := by decide +kernel
theorem dX4_taken_10 : decode cX4_taken 10 = .ok (.invokestatic 86, 3) := by decide +kernel
theorem dX4_taken_13 : decode cX4_taken 13 = .ok (.ifCond .eq 12, 3) := by decide +kernel
theorem dX4_taken_16 : decode cX4_taken 16 = .ok (.iload_n 3, 1) := by decide +kernel
theorem dX4_taken_17 : decode cX4_taken 17 = .ok (.ifCond .lt 8, 3) := by decide +kernel
theorem dX4_taken_20 : decode cX4_taken 20 = .ok (.iload_n 3, 1) := by decide +kernel
theorem dX4_taken_21 : decode cX4_taken 21 = .ok (.iconst 2, 1) := by decide +kernel
theorem dX4_taken_22 : decode cX4_taken 22 = .ok (.if_icmp .le 6, 3) := by decide +kernel
theorem dX4_taken_25 : decode cX4_taken 25 = .ok (.bipush (-2), 2) := by decide +kernel
theorem dX4_taken_27 : decode cX4_taken 27 = .ok (.ireturn, 1) := by decide +kernel
theorem dX4_taken_28 : decode cX4_taken 28 = .ok (.aload_n 0, 1) := by decide +kernel
theorem dX4_taken_29 : decode cX4_taken 29 = .ok (.iload_n 1, 1) := by decide +kernel
theorem dX4_taken_30 : decode cX4_taken 30 = .ok (.invokevirtual 64, 3) := by decide +kernel
theorem dX4_taken_33 : decode cX4_taken 33 = .ok (.astore 4, 2) := by decide +kernel
theorem dX4_taken_35 : decode cX4_taken 35 = .ok (.iload_n 2, 1) := by decide +kernel
theorem dX4_taken_36 : decode cX4_taken 36 = .ok (.ifCond .eq 15, 3) := by decide +kernel
theorem dX4_taken_39 : decode cX4_taken 39 = .ok (.iload_n 2, 1) := by decide +kernel
theorem dX4_taken_40 : decode cX4_taken 40 = .ok (.aload 4, 2) := by decide +kernel
theorem dX4_taken_42 : decode cX4_taken 42 = .ok (.getfield 92, 3) := by decide +kernel
theorem dX4_taken_45 : decode cX4_taken 45 = .ok (.if_icmp .eq 6, 3) := by decide +kernel
theorem dX4_taken_48 : decode cX4_taken 48 = .ok (.bipush (-13), 2) := by decide +kernel
theorem dX4_taken_50 : decode cX4_taken 50 = .ok (.ireturn, 1) := by decide +kernel
theorem dX4_taken_51 : decode cX4_taken 51 = .ok (.iload_n 3, 1) := by decide +kernel
theorem dX4_taken_52 : decode cX4_taken 52 = .ok (.ifCond .ne 9, 3) := by decide +kernel
theorem dX4_taken_55 : decode cX4_taken 55 = .ok (.aload 4, 2) := by decide +kernel
theorem dX4_taken_57 : decode cX4_taken 57 = .ok (.getfield 92, 3) := by decide +kernel
theorem dX4_taken_60 : decode cX4_taken 60 = .ok (.ireturn, 1) := by decide +kernel
theorem dX4_taken_61 : decode cX4_taken 61 = .ok (.iload_n 3, 1) := by decide +kernel
theorem dX4_taken_62 : decode cX4_taken 62 = .ok (.iconst 1, 1) := by decide +kernel
theorem dX4_taken_63 : decode cX4_taken 63 = .ok (.if_icmp .ne 23, 3) := by decide +kernel
theorem dX4_taken_66 : decode cX4_taken 66 = .ok (.aload 4, 2) := by decide +kernel
theorem dX4_taken_68 : decode cX4_taken 68 = .ok (.getfield 92, 3) := by decide +kernel
theorem dX4_taken_71 : decode cX4_taken 71 = .ok (.iconst 1, 1) := by decide +kernel
theorem dX4_taken_72 : decode cX4_taken 72 = .ok (.if_icmp .ne 11, 3) := by decide +kernel
theorem dX4_taken_75 : decode cX4_taken 75 = .ok (.aload 4, 2) := by decide +kernel
theorem dX4_taken_77 : decode cX4_taken 77 = .ok (.getfield 95, 3) := by decide +kernel
theorem dX4_taken_80 : decode cX4_taken 80 = .ok (.goto 5, 3) := by decide +kernel
theorem dX4_taken_83 : decode cX4_taken 83 = .ok (.bipush (-9), 2) := by decide +kernel
theorem dX4_taken_85 : decode cX4_taken 85 = .ok (.ireturn, 1) := by decide +kernel
theorem dX4_taken_86 : decode cX4_taken 86 = .ok (.aload_n 0, 1) := by decide +kernel
theorem dX4_taken_87 : decode cX4_taken 87 = .ok (.aload 4, 2) := by decide +kernel
theorem dX4_taken_89 : decode cX4_taken 89 = .ok (.iconst 0, 1) := by decide +kernel
theorem dX4_taken_90 : decode cX4_taken 90 = .ok (.invokevirtual 98, 3) := by decide +kernel
theorem dX4_taken_93 : decode cX4_taken 93 = .ok (.ireturn, 1) := by decide +kernel
theorem dX4_copy_0 : decode cX4_copy 0 = .ok (.iload_n 1, 1) := by decide +kernel
theorem dX4_copy_1 : decode cX4_copy 1 = .ok (.invokestatic 83, 3) := by decide +kernel
theorem dX4_copy_4 : decode cX4_copy 4 = .ok (.ifCond .eq 11, 3) := by decide +kernel
theorem dX4_copy_7 : decode cX4_copy 7 = .ok (.aload_n 0, 1) := by decide +kernel
theorem dX4_copy_8 : decode cX4_copy 8 = .ok (.iload_n 2, 1) := by decide +kernel
theorem dX4_copy_9 : decode cX4_copy 9 = .ok (.invokevirtual 76, 3) := by decide +kernel
theorem dX4_copy_12 : decode cX4_copy 12 = .ok (.ifCond .ne 5, 3) := by decide +kernel
theorem dX4_copy_15 : decode cX4_copy 15 = .ok (.iconst (-1), 1) := by decide +kernel
theorem dX4_copy_16 : decode cX4_copy 16 = .ok (.ireturn, 1) := by decide +kernel
theorem dX4_copy_17 : decode cX4_copy 17 = .ok (.aload_n 0, 1) := by decide +kernel
theorem dX4_copy_18 : decode cX4_copy 18 = .ok (.aload_n 0, 1) := by decide +kernel
theorem dX4_copy_19 : decode cX4_copy 19 = .ok (.iload_n 1, 1) := by decide +kernel
theorem dX4_copy_20 : decode cX4_copy 20 = .ok (.invokevirtual 64, 3) := by decide +kernel
theorem dX4_copy_23 : decode cX4_copy 23 = .ok (.iload_n 2, 1) := by decide +kernel
theorem dX4_copy_24 : decode cX4_copy 24 = .ok (.invokevirtual 98, 3) := by decide +kernel
theorem dX4_copy_27 : decode cX4_copy 27 = .ok (.ireturn, 1) := by decide +kernel
theorem dX4_sum_0 : decode cX4_sum 0 = .ok (.aload_n 0, 1) := by decide +kernel
theorem dX4_sum_1 : decode cX4_sum 1 = .ok (.getfield 13, 3) := by decide +kernel
theorem dX4_sum_4 : decode cX4_sum 4 = .ok (.iconst 0, 1) := by decide +kernel
theorem dX4_sum_5 : decode cX4_sum 5 = .ok (.iload_n 1, 1) := by decide +kernel
theorem dX4_sum_6 : decode cX4_sum 6 = .ok (.iastore, 1) := by decide +kernel
theorem dX4_sum_7 : decode cX4_sum 7 = .ok (.aload_n 0, 1) := by decide +kernel
theorem dX4_sum_8 : decode cX4_sum 8 = .ok (.getfield 13, 3) := by decide +kernel
theorem dX4_sum_11 : decode cX4_sum 11 = .ok (.iconst 1, 1) := by decide +kernel
theorem dX4_sum_12 : decode cX4_sum 12 = .ok (.iload_n 2, 1) := by decide +kernel
theorem dX4_sum_13 : decode cX4_sum 13 = .ok (.iastore, 1) := by decide +kernel
theorem dX4_sum_14 : decode cX4_sum 14 = .ok (.aload_n 0, 1) := by decide +kernel
theorem dX4_sum_15 : decode cX4_sum 15 = .ok (.getfield 13, 3) := by decide +kernel
theorem dX4_sum_18 : decode cX4_sum 18 = .ok (.iconst 2, 1) := by decide +kernel
theorem dX4_sum_19 : decode cX4_sum 19 = .ok (.iload_n 3, 1) := by decide +kernel
theorem dX4_sum_20 : decode cX4_sum 20 = .ok (.iastore, 1) := by decide +kernel
theorem dX4_sum_21 : decode cX4_sum 21 = .ok (.iconst 0, 1) := by decide +kernel
theorem dX4_sum_22 : decode cX4_sum 22 = .ok (.istore 4, 2) := by decide +kernel
theorem dX4_sum_24 : decode cX4_sum 24 = .ok (.iload 4, 2) := by decide +kernel
theorem dX4_sum_26 : decode cX4_sum 26 = .ok (.aload_n 0, 1) := by decide +kernel
theorem dX4_sum_27 : decode cX4_sum 27 = .ok (.getfield 43, 3) := by decide +kernel
theorem dX4_sum_30 : decode cX4_sum 30 = .ok (.if_icmp .ge 25, 3) := by decide +kernel
theorem dX4_sum_33 : decode cX4_sum 33 = .ok (.aload_n 0, 1) := by decide +kernel
theorem dX4_sum_34 : decode cX4_sum 34 = .ok (.getfield 13, 3) := by decide +kernel
theorem dX4_sum_37 : decode cX4_sum 37 = .ok (.iload 4, 2) := by decide +kernel
theorem dX4_sum_39 : decode cX4_sum 39 = .ok (.iaload, 1) := by decide +kernel
theorem dX4_sum_40 : decode cX4_sum 40 = .ok (.invokestatic 80, 3) := by decide +kernel
theorem dX4_sum_43 : decode cX4_sum 43 = .ok (.ifCond .ne 6, 3) := by decide +kernel
theorem dX4_sum_46 : decode cX4_sum 46 = .ok (.bipush (-2), 2) := by decide +kernel
theorem dX4_sum_48 : decode cX4_sum 48 = .ok (.ireturn, 1) := by decide +kernel
theorem dX4_sum_49 : decode cX4_sum 49 = .ok (.iinc 4 1, 3) := by decide +kernel
theorem dX4_sum_52 : decode cX4_sum 52 = .ok (.goto (-28), 3) := by decide +kernel
theorem dX4_sum_55 : decode cX4_sum 55 = .ok (.aload_n 0, 1) := by decide +kernel
theorem dX4_sum_56 : decode cX4_sum 56 = .ok (.aload_n 0, 1) := by decide +kernel
theorem dX4_sum_57 : decode cX4_sum 57 = .ok (.getfield 9, 3) := by decide +kernel
theorem dX4_sum_60 : decode cX4_sum 60 = .ok (.invokevirtual 102, 3) := by decide +kernel
theorem dX4_sum_63 : decode cX4_sum 63 = .ok (.ireturn, 1) := by decide +kernel
theorem dX4_ask_0 : decode cX4_ask 0 = .ok (.aload_n 0, 1) := by decide +kernel
theorem dX4_ask_1 : decode cX4_ask 1 = .ok (.iload_n 1, 1) := by decide +kernel
theorem dX4_ask_2 : decode cX4_ask 2 = .ok (.invokevirtual 76, 3) := by decide +kernel
theorem dX4_ask_5 : decode cX4_ask 5 = .ok (.ifCond .ne 5, 3) := by decide +kernel
theorem dX4_ask_8 : decode cX4_ask 8 = .ok (.iconst (-1), 1) := by decide +kernel
theorem dX4_ask_9 : decode cX4_ask 9 = .ok (.ireturn, 1) := by decide +kernel
theorem dX4_ask_10 : decode cX4_ask 10 = .ok (.iload_n 2, 1) := by decide +kernel
theorem dX4_ask_11 : decode cX4_ask 11 = .ok (.invokestatic 106, 3) := by decide +kernel
theorem dX4_ask_14 : decode cX4_ask 14 = .ok (.ifCond .eq 10, 3) := by decide +kernel
theorem dX4_ask_17 : decode cX4_ask 17 = .ok (.iload_n 3, 1) := by decide +kernel
theorem dX4_ask_18 : decode cX4_ask 18 = .ok (.invokestatic 109, 3) := by decide +kernel
theorem dX4_ask_21 : decode cX4_ask 21 = .ok (.ifCond .ne 6, 3) := by decide +kernel
theorem dX4_ask_24 : decode cX4_ask 24 = .ok (.bipush (-2), 2) := by decide +kernel
theorem dX4_ask_26 : decode cX4_ask 26 = .ok (.ireturn, 1) := by decide +kernel
theorem dX4_ask_27 : decode cX4_ask 27 = .ok (.aload_n 0, 1) := by decide +kernel
theorem dX4_ask_28 : decode cX4_ask 28 = .ok (.getfield 25, 3) := by decide +kernel
theorem dX4_ask_31 : decode cX4_ask 31 = .ok (.iload_n 1, 1) := by decide +kernel
theorem dX4_ask_32 : decode cX4_ask 32 = .ok (.iload_n 2, 1) := by decide +kernel
theorem dX4_ask_33 : decode cX4_ask 33 = .ok (.aload_n 0, 1) := by decide +kernel
theorem dX4_ask_34 : decode cX4_ask 34 = .ok (.getfield 43, 3) := by decide +kernel
theorem dX4_ask_37 : decode cX4_ask 37 = .ok (.iload_n 3, 1) := by decide +kernel
theorem dX4_ask_38 : decode cX4_ask 38 = .ok (.invokevirtual 112, 3) := by decide +kernel
theorem dX4_ask_41 : decode cX4_ask 41 = .ok (.aload_n 0, 1) := by decide +kernel
theorem dX4_ask_42 : decode cX4_ask 42 = .ok (.dup, 1) := by decide +kernel
theorem dX4_ask_43 : decode cX4_ask 43 = .ok (.getfield 56, 3) := by decide +kernel
theorem dX4_ask_46 : decode cX4_ask 46 = .ok (.iconst 1, 1) := by decide +kernel
theorem dX4_ask_47 : decode cX4_ask 47 = .ok (.iadd, 1) := by decide +kernel
theorem dX4_ask_48 : decode cX4_ask 48 = .ok (.putfield 56, 3) := by decide +kernel
theorem dX4_ask_51 : decode cX4_ask 51 = .ok (.aload_n 0, 1) := by decide +kernel
theorem dX4_ask_52 : decode cX4_ask 52 = .ok (.getfield 25, 3) := by decide +kernel
theorem dX4_ask_55 : decode cX4_ask 55 = .ok (.getfield 116, 3) := by decide +kernel
theorem dX4_ask_58 : decode cX4_ask 58 = .ok (.ireturn, 1) := by decide +kernel
theorem dX4_veil_0 : decode cX4_veil 0 = .ok (.iload_n 1, 1) := by decide +kernel
theorem dX4_veil_1 : decode cX4_veil 1 = .ok (.bipush (-9), 2) := by decide +kernel
theorem dX4_veil_3 : decode cX4_veil 3 = .ok (.if_icmp .eq 13, 3) := by decide +kernel
theorem dX4_veil_6 : decode cX4_veil 6 = .ok (.iload_n 1, 1) := by decide +kernel
theorem dX4_veil_7 : decode cX4_veil 7 = .ok (.invokestatic 109, 3) := by decide +kernel
theorem dX4_veil_10 : decode cX4_veil 10 = .ok (.ifCond .ne 6, 3) := by decide +kernel
theorem dX4_veil_13 : decode cX4_veil 13 = .ok (.bipush (-2), 2) := by decide +kernel
theorem dX4_veil_15 : decode cX4_veil 15 = .ok (.ireturn, 1) := by decide +kernel
theorem dX4_veil_16 : decode cX4_veil 16 = .ok (.aload_n 0, 1) := by decide +kernel
theorem dX4_veil_17 : decode cX4_veil 17 = .ok (.getfield 25, 3) := by decide +kernel
theorem dX4_veil_20 : decode cX4_veil 20 = .ok (.getfield 72, 3) := by decide +kernel
theorem dX4_veil_23 : decode cX4_veil 23 = .ok (.ifCond .ne 6, 3) := by decide +kernel
theorem dX4_veil_26 : decode cX4_veil 26 = .ok (.bipush (-3), 2) := by decide +kernel
theorem dX4_veil_28 : decode cX4_veil 28 = .ok (.ireturn, 1) := by decide +kernel
theorem dX4_veil_29 : decode cX4_veil 29 = .ok (.aload_n 0, 1) := by decide +kernel
theorem dX4_veil_30 : decode cX4_veil 30 = .ok (.getfield 25, 3) := by decide +kernel
theorem dX4_veil_33 : decode cX4_veil 33 = .ok (.getfield 119, 3) := by decide +kernel
theorem dX4_veil_36 : decode cX4_veil 36 = .ok (.ifCond .eq 7, 3) := by decide +kernel
theorem dX4_veil_39 : decode cX4_veil 39 = .ok (.iconst 1, 1) := by decide +kernel
theorem dX4_veil_40 : decode cX4_veil 40 = .ok (.goto 4, 3) := by decide +kernel
theorem dX4_veil_43 : decode cX4_veil 43 = .ok (.iconst 0, 1) := by decide +kernel
theorem dX4_veil_44 : decode cX4_veil 44 = .ok (.istore_n 2, 1) := by decide +kernel
theorem dX4_veil_45 : decode cX4_veil 45 = .ok (.aload_n 0, 1) := by decide +kernel
theorem dX4_veil_46 : decode cX4_veil 46 = .ok (.getfield 25, 3) := by decide +kernel
theorem dX4_veil_49 : decode cX4_veil 49 = .ok (.iload_n 1, 1) := by decide +kernel
theorem dX4_veil_50 : decode cX4_veil 50 = .ok (.invokevirtual 122, 3) := by decide +kernel
theorem dX4_veil_53 : decode cX4_veil 53 = .ok (.iload_n 2, 1) := by decide +kernel
theorem dX4_veil_54 : decode cX4_veil 54 = .ok (.ireturn, 1) := by decide +kernel
theorem dX4_point_0 : decode cX4_point 0 = .ok (.iload_n 1, 1) := by decide +kernel
theorem dX4_point_1 : decode cX4_point 1 = .ok (.invokestatic 83, 3) := by decide +kernel
theorem dX4_point_4 : decode cX4_point 4 = .ok (.ifCond .ne 5, 3) := by decide +kernel
theorem dX4_point_7 : decode cX4_point 7 = .ok (.iconst (-1), 1) := by decide +kernel
theorem dX4_point_8 : decode cX4_point 8 = .ok (.ireturn, 1) := by decide +kernel
theorem dX4_point_9 : decode cX4_point 9 = .ok (.aload_n 0, 1) := by decide +kernel
theorem dX4_point_10 : decode cX4_point 10 = .ok (.getfield 25, 3) := by decide +kernel
theorem dX4_point_13 : decode cX4_point 13 = .ok (.getfield 72, 3) := by decide +kernel
theorem dX4_point_16 : decode cX4_point 16 = .ok (.ifCond .ne 6, 3) := by decide +kernel
theorem dX4_point_19 : decode cX4_point 19 = .ok (.bipush (-3), 2) := by decide +kernel
theorem dX4_point_21 : decode cX4_point 21 = .ok (.ireturn, 1) := by decide +kernel
theorem dX4_point_22 : decode cX4_point 22 = .ok (.iload_n 2, 1) := by decide +kernel
theorem dX4_point_23 : decode cX4_point 23 = .ok (.ifCond .lt 11, 3) := by decide +kernel
theorem dX4_point_26 : decode cX4_point 26 = .ok (.iload_n 2, 1) := by decide +kernel
theorem dX4_point_27 : decode cX4_point 27 = .ok (.aload_n 0, 1) := by decide +kernel
theorem dX4_point_28 : decode cX4_point 28 = .ok (.getfield 43, 3) := by decide +kernel
theorem dX4_point_31 : decode cX4_point 31 = .ok (.if_icmp .lt 6, 3) := by decide +kernel
theorem dX4_point_34 : decode cX4_point 34 = .ok (.bipush (-2), 2) := by decide +kernel
theorem dX4_point_36 : decode cX4_point 36 = .ok (.ireturn, 1) := by decide +kernel
theorem dX4_point_37 : decode cX4_point 37 = .ok (.aload_n 0, 1) := by decide +kernel
theorem dX4_point_38 : decode cX4_point 38 = .ok (.getfield 25, 3) := by decide +kernel
theorem dX4_point_41 : decode cX4_point 41 = .ok (.iload_n 1, 1) := by decide +kernel
theorem dX4_point_42 : decode cX4_point 42 = .ok (.iload_n 2, 1) := by decide +kernel
theorem dX4_point_43 : decode cX4_point 43 = .ok (.invokevirtual 126, 3) := by decide +kernel
theorem dX4_point_46 : decode cX4_point 46 = .ok (.ireturn, 1) := by decide +kernel
theorem dX4_answer_0 : decode cX4_answer 0 = .ok (.iload_n 1, 1) := by decide +kernel
theorem dX4_answer_1 : decode cX4_answer 1 = .ok (.invokestatic 83, 3) := by decide +kernel
theorem dX4_answer_4 : decode cX4_answer 4 = .ok (.ifCond .ne 5, 3) := by decide +kernel
theorem dX4_answer_7 : decode cX4_answer 7 = .ok (.iconst (-1), 1) := by decide +kernel
theorem dX4_answer_8 : decode cX4_answer 8 = .ok (.ireturn, 1) := by decide +kernel
theorem dX4_answer_9 : decode cX4_answer 9 = .ok (.aload_n 0, 1) := by decide +kernel
theorem dX4_answer_10 : decode cX4_answer 10 = .ok (.getfield 25, 3) := by decide +kernel
theorem dX4_answer_13 : decode cX4_answer 13 = .ok (.getfield 72, 3) := by decide +kernel
theorem dX4_answer_16 : decode cX4_answer 16 = .ok (.ifCond .ne 6, 3) := by decide +kernel
theorem dX4_answer_19 : decode cX4_answer 19 = .ok (.bipush (-3), 2) := by decide +kernel
theorem dX4_answer_21 : decode cX4_answer 21 = .ok (.ireturn, 1) := by decide +kernel
theorem dX4_answer_22 : decode cX4_answer 22 = .ok (.aload_n 0, 1) := by decide +kernel
theorem dX4_answer_23 : decode cX4_answer 23 = .ok (.iload_n 1, 1) := by decide +kernel
theorem dX4_answer_24 : decode cX4_answer 24 = .ok (.invokevirtual 64, 3) := by decide +kernel
theorem dX4_answer_27 : decode cX4_answer 27 = .ok (.getfield 92, 3) := by decide +kernel
theorem dX4_answer_30 : decode cX4_answer 30 = .ok (.iconst 3, 1) := by decide +kernel
theorem dX4_answer_31 : decode cX4_answer 31 = .ok (.if_icmp .ne 8, 3) := by decide +kernel
theorem dX4_answer_34 : decode cX4_answer 34 = .ok (.bipush (-9), 2) := by decide +kernel
theorem dX4_answer_36 : decode cX4_answer 36 = .ok (.goto 8, 3) := by decide +kernel
theorem dX4_answer_39 : decode cX4_answer 39 = .ok (.aload_n 0, 1) := by decide +kernel
theorem dX4_answer_40 : decode cX4_answer 40 = .ok (.iload_n 1, 1) := by decide +kernel
theorem dX4_answer_41 : decode cX4_answer 41 = .ok (.invokevirtual 130, 3) := by decide +kernel
theorem dX4_answer_44 : decode cX4_answer 44 = .ok (.ireturn, 1) := by decide +kernel
theorem dX4_needed_0 : decode cX4_needed 0 = .ok (.iload_n 1, 1) := by decide +kernel
theorem dX4_needed_1 : decode cX4_needed 1 = .ok (.iconst 1, 1) := by decide +kernel
theorem dX4_needed_2 : decode cX4_needed 2 = .ok (.if_icmp .lt 24, 3) := by decide +kernel
theorem dX4_needed_5 : decode cX4_needed 5 = .ok (.iload_n 1, 1) := by decide +kernel
theorem dX4_needed_6 : decode cX4_needed 6 = .ok (.iconst 3, 1) := by decide +kernel
theorem dX4_needed_7 : decode cX4_needed 7 = .ok (.if_icmp .gt 19, 3) := by decide +kernel
theorem dX4_needed_10 : decode cX4_needed 10 = .ok (.iload_n 2, 1) := by decide +kernel
theorem dX4_needed_11 : decode cX4_needed 11 = .ok (.invokestatic 106, 3) := by decide +kernel
theorem dX4_needed_14 : decode cX4_needed 14 = .ok (.ifCond .eq 12, 3) := by decide +kernel
theorem dX4_needed_17 : decode cX4_needed 17 = .ok (.iload_n 3, 1) := by decide +kernel
theorem dX4_needed_18 : decode cX4_needed 18 = .ok (.ifCond .lt 8, 3) := by decide +kernel
theorem dX4_needed_21 : decode cX4_needed 21 = .ok (.iload_n 3, 1) := by decide +kernel
theorem dX4_needed_22 : decode cX4_needed 22 = .ok (.iconst 4, 1) := by decide +kernel
theorem dX4_needed_23 : decode cX4_needed 23 = .ok (.if_icmp .le 6, 3) := by decide +kernel
theorem dX4_needed_26 : decode cX4_needed 26 = .ok (.bipush (-2), 2) := by decide +kernel
theorem dX4_needed_28 : decode cX4_needed 28 = .ok (.ireturn, 1) := by decide +kernel
theorem dX4_needed_29 : decode cX4_needed 29 = .ok (.iload_n 1, 1) := by decide +kernel
theorem dX4_needed_30 : decode cX4_needed 30 = .ok (.iload_n 2, 1) := by decide +kernel
theorem dX4_needed_31 : decode cX4_needed 31 = .ok (.imul, 1) := by decide +kernel
theorem dX4_needed_32 : decode cX4_needed 32 = .ok (.iconst 1, 1) := by decide +kernel
theorem dX4_needed_33 : decode cX4_needed 33 = .ok (.iadd, 1) := by decide +kernel
theorem dX4_needed_34 : decode cX4_needed 34 = .ok (.iconst 2, 1) := by decide +kernel
theorem dX4_needed_35 : decode cX4_needed 35 = .ok (.iload_n 3, 1) := by decide +kernel
theorem dX4_needed_36 : decode cX4_needed 36 = .ok (.imul, 1) := by decide +kernel
theorem dX4_needed_37 : decode cX4_needed 37 = .ok (.iadd, 1) := by decide +kernel
theorem dX4_needed_38 : decode cX4_needed 38 = .ok (.ireturn, 1) := by decide +kernel
theorem dX4_fetch_0 : decode cX4_fetch 0 = .ok (.aload_n 0, 1) := by decide +kernel
theorem dX4_fetch_1 : decode cX4_fetch 1 = .ok (.iload_n 1, 1) := by decide +kernel
theorem dX4_fetch_2 : decode cX4_fetch 2 = .ok (.invokevirtual 134, 3) := by decide +kernel
theorem dX4_fetch_5 : decode cX4_fetch 5 = .ok (.istore_n 2, 1) := by decide +kernel
theorem dX4_fetch_6 : decode cX4_fetch 6 = .ok (.iload_n 2, 1) := by decide +kernel
theorem dX4_fetch_7 : decode cX4_fetch 7 = .ok (.ifCond .eq 5, 3) := by decide +kernel
theorem dX4_fetch_10 : decode cX4_fetch 10 = .ok (.iload_n 2, 1) := by decide +kernel
theorem dX4_fetch_11 : decode cX4_fetch 11 = .ok (.ireturn, 1) := by decide +kernel
theorem dX4_fetch_12 : decode cX4_fetch 12 = .ok (.aload_n 0, 1) := by decide +kernel
theorem dX4_fetch_13 : decode cX4_fetch 13 = .ok (.iload_n 1, 1) := by decide +kernel
theorem dX4_fetch_14 : decode cX4_fetch 14 = .ok (.invokevirtual 137, 3) := by decide +kernel
theorem dX4_fetch_17 : decode cX4_fetch 17 = .ok (.aload_n 0, 1) := by decide +kernel
theorem dX4_fetch_18 : decode cX4_fetch 18 = .ok (.dup, 1) := by decide +kernel
theorem dX4_fetch_19 : decode cX4_fetch 19 = .ok (.getfield 50, 3) := by decide +kernel
theorem dX4_fetch_22 : decode cX4_fetch 22 = .ok (.iload_n 1, 1) := by decide +kernel
theorem dX4_fetch_23 : decode cX4_fetch 23 = .ok (.aload_n 0, 1) := by decide +kernel
theorem dX4_fetch_24 : decode cX4_fetch 24 = .ok (.getfield 43, 3) := by decide +kernel
theorem dX4_fetch_27 : decode cX4_fetch 27 = .ok (.imul, 1) := by decide +kernel
theorem dX4_fetch_28 : decode cX4_fetch 28 = .ok (.iadd, 1) := by decide +kernel
theorem dX4_fetch_29 : decode cX4_fetch 29 = .ok (.putfield 50, 3) := by decide +kernel
theorem dX4_fetch_32 : decode cX4_fetch 32 = .ok (.aload_n 0, 1) := by decide +kernel
theorem dX4_fetch_33 : decode cX4_fetch 33 = .ok (.dup, 1) := by decide +kernel
theorem dX4_fetch_34 : decode cX4_fetch 34 = .ok (.getfield 53, 3) := by decide +kernel
theorem dX4_fetch_37 : decode cX4_fetch 37 = .ok (.aload_n 0, 1) := by decide +kernel
theorem dX4_fetch_38 : decode cX4_fetch 38 = .ok (.getfield 32, 3) := by decide +kernel
theorem dX4_fetch_41 : decode cX4_fetch 41 = .ok (.getfield 140, 3) := by decide +kernel
theorem dX4_fetch_44 : decode cX4_fetch 44 = .ok (.iadd, 1) := by decide +kernel
theorem dX4_fetch_45 : decode cX4_fetch 45 = .ok (.putfield 53, 3) := by decide +kernel
theorem dX4_fetch_48 : decode cX4_fetch 48 = .ok (.aload_n 0, 1) := by decide +kernel
theorem dX4_fetch_49 : decode cX4_fetch 49 = .ok (.aload_n 0, 1) := by decide +kernel
theorem dX4_fetch_50 : decode cX4_fetch 50 = .ok (.getfield 32, 3) := by decide +kernel
theorem dX4_fetch_53 : decode cX4_fetch 53 = .ok (.getfield 140, 3) := by decide +kernel
theorem dX4_fetch_56 : decode cX4_fetch 56 = .ok (.aload_n 0, 1) := by decide +kernel
theorem dX4_fetch_57 : decode cX4_fetch 57 = .ok (.aload_n 0, 1) := by decide +kernel
theorem dX4_fetch_58 : decode cX4_fetch 58 = .ok (.getfield 32, 3) := by decide +kernel
theorem dX4_fetch_61 : decode cX4_fetch 61 = .ok (.getfield 140, 3) := by decide +kernel
theorem dX4_fetch_64 : decode cX4_fetch 64 = .ok (.invokevirtual 143, 3) := by decide +kernel
theorem dX4_fetch_67 : decode cX4_fetch 67 = .ok (.isub, 1) := by decide +kernel
theorem dX4_fetch_68 : decode cX4_fetch 68 = .ok (.invokevirtual 146, 3) := by decide +kernel
theorem dX4_fetch_71 : decode cX4_fetch 71 = .ok (.ifCond .ne 6, 3) := by decide +kernel
theorem dX4_fetch_74 : decode cX4_fetch 74 = .ok (.bipush (-9), 2) := by decide +kernel
theorem dX4_fetch_76 : decode cX4_fetch 76 = .ok (.ireturn, 1) := by decide +kernel
theorem dX4_fetch_77 : decode cX4_fetch 77 = .ok (.aload_n 0, 1) := by decide +kernel
theorem dX4_fetch_78 : decode cX4_fetch 78 = .ok (.aload_n 0, 1) := by decide +kernel
theorem dX4_fetch_79 : decode cX4_fetch 79 = .ok (.getfield 32, 3) := by decide +kernel
theorem dX4_fetch_82 : decode cX4_fetch 82 = .ok (.aload_n 0, 1) := by decide +kernel
theorem dX4_fetch_83 : decode cX4_fetch 83 = .ok (.getfield 39, 3) := by decide +kernel
theorem dX4_fetch_86 : decode cX4_fetch 86 = .ok (.invokevirtual 149, 3) := by decide +kernel
theorem dX4_fetch_89 : decode cX4_fetch 89 = .ok (.putfield 47, 3) := by decide +kernel
theorem dX4_fetch_92 : decode cX4_fetch 92 = .ok (.aload_n 0, 1) := by decide +kernel
theorem dX4_fetch_93 : decode cX4_fetch 93 = .ok (.getfield 39, 3) := by decide +kernel
theorem dX4_fetch_96 : decode cX4_fetch 96 = .ok (.iconst 0, 1) := by decide +kernel
theorem dX4_fetch_97 : decode cX4_fetch 97 = .ok (.invokevirtual 153, 3) := by decide +kernel
theorem dX4_fetch_100 : decode cX4_fetch 100 = .ok (.ireturn, 1) := by decide +kernel
theorem dX4_caught_0 : decode cX4_caught 0 = .ok (.iload_n 1, 1) := by decide +kernel
theorem dX4_caught_1 : decode cX4_caught 1 = .ok (.invokestatic 83, 3) := by decide +kernel
theorem dX4_caught_4 : decode cX4_caught 4 = .ok (.ifCond .ne 5, 3) := by decide +kernel
theorem dX4_caught_7 : decode cX4_caught 7 = .ok (.iconst (-1), 1) := by decide +kernel
theorem dX4_caught_8 : decode cX4_caught 8 = .ok (.ireturn, 1) := by decide +kernel
theorem dX4_caught_9 : decode cX4_caught 9 = .ok (.aload_n 0, 1) := by decide +kernel
theorem dX4_caught_10 : decode cX4_caught 10 = .ok (.getfield 47, 3) := by decide +kernel
theorem dX4_caught_13 : decode cX4_caught 13 = .ok (.iload_n 1, 1) := by decide +kernel
theorem dX4_caught_14 : decode cX4_caught 14 = .ok (.invokestatic 156, 3) := by decide +kernel
theorem dX4_caught_17 : decode cX4_caught 17 = .ok (.ireturn, 1) := by decide +kernel
theorem dX4_mends_0 : decode cX4_mends 0 = .ok (.aload_n 0, 1) := by decide +kernel
theorem dX4_mends_1 : decode cX4_mends 1 = .ok (.iload_n 1, 1) := by decide +kernel
theorem dX4_mends_2 : decode cX4_mends 2 = .ok (.invokevirtual 134, 3) := by decide +kernel
theorem dX4_mends_5 : decode cX4_mends 5 = .ok (.istore_n 2, 1) := by decide +kernel
theorem dX4_mends_6 : decode cX4_mends 6 = .ok (.iload_n 2, 1) := by decide +kernel
theorem dX4_mends_7 : decode cX4_mends 7 = .ok (.ifCond .ne 15, 3) := by decide +kernel
theorem dX4_mends_10 : decode cX4_mends 10 = .ok (.aload_n 0, 1) := by decide +kernel
theorem dX4_mends_11 : decode cX4_mends 11 = .ok (.aload_n 0, 1) := by decide +kernel
theorem dX4_mends_12 : decode cX4_mends 12 = .ok (.iload_n 1, 1) := by decide +kernel
theorem dX4_mends_13 : decode cX4_mends 13 = .ok (.invokevirtual 159, 3) := by decide +kernel
theorem dX4_mends_16 : decode cX4_mends 16 = .ok (.invokevirtual 143, 3) := by decide +kernel
theorem dX4_mends_19 : decode cX4_mends 19 = .ok (.goto 4, 3) := by decide +kernel
theorem dX4_mends_22 : decode cX4_mends 22 = .ok (.iload_n 2, 1) := by decide +kernel
theorem dX4_mends_23 : decode cX4_mends 23 = .ok (.ireturn, 1) := by decide +kernel
theorem dX4_ways_0 : decode cX4_ways 0 = .ok (.aload_n 0, 1) := by decide +kernel
theorem dX4_ways_1 : decode cX4_ways 1 = .ok (.iload_n 1, 1) := by decide +kernel
theorem dX4_ways_2 : decode cX4_ways 2 = .ok (.invokevirtual 162, 3) := by decide +kernel
theorem dX4_ways_5 : decode cX4_ways 5 = .ok (.istore_n 3, 1) := by decide +kernel
theorem dX4_ways_6 : decode cX4_ways 6 = .ok (.iload_n 3, 1) := by decide +kernel
theorem dX4_ways_7 : decode cX4_ways 7 = .ok (.ifCond .eq 6, 3) := by decide +kernel
theorem dX4_ways_10 : decode cX4_ways 10 = .ok (.iload_n 3, 1) := by decide +kernel
theorem dX4_ways_11 : decode cX4_ways 11 = .ok (.i2l, 1) := by decide +kernel
theorem dX4_ways_12 : decode cX4_ways 12 = .ok (.lreturn, 1) := by decide +kernel
theorem dX4_ways_13 : decode cX4_ways 13 = .ok (.aload_n 0, 1) := by decide +kernel
theorem dX4_ways_14 : decode cX4_ways 14 = .ok (.iload_n 2, 1) := by decide +kernel
theorem dX4_ways_15 : decode cX4_ways 15 = .ok (.invokevirtual 76, 3) := by decide +kernel
theorem dX4_ways_18 : decode cX4_ways 18 = .ok (.ifCond .eq 15, 3) := by decide +kernel
theorem dX4_ways_21 : decode cX4_ways 21 = .ok (.aload_n 0, 1) := by decide +kernel
theorem dX4_ways_22 : decode cX4_ways 22 = .ok (.getfield 25, 3) := by decide +kernel
theorem dX4_ways_25 : decode cX4_ways 25 = .ok (.iload_n 1, 1) := by decide +kernel
theorem dX4_ways_26 : decode cX4_ways 26 = .ok (.iload_n 2, 1) := by decide +kernel
theorem dX4_ways_27 : decode cX4_ways 27 = .ok (.invokevirtual 165, 3) := by decide +kernel
theorem dX4_ways_30 : decode cX4_ways 30 = .ok (.goto 6, 3) := by decide +kernel
theorem dX4_ways_33 : decode cX4_ways 33 = .ok (.ldc2_w 169, 3) := by decide +kernel
theorem dX4_ways_36 : decode cX4_ways 36 = .ok (.lreturn, 1) := by decide +kernel
theorem dX4_might_0 : decode cX4_might 0 = .ok (.aload_n 0, 1) := by decide +kernel
theorem dX4_might_1 : decode cX4_might 1 = .ok (.iload_n 1, 1) := by decide +kernel
theorem dX4_might_2 : decode cX4_might 2 = .ok (.invokevirtual 162, 3) := by decide +kernel
theorem dX4_might_5 : decode cX4_might 5 = .ok (.istore_n 2, 1) := by decide +kernel
theorem dX4_might_6 : decode cX4_might 6 = .ok (.iload_n 2, 1) := by decide +kernel
theorem dX4_might_7 : decode cX4_might 7 = .ok (.ifCond .eq 5, 3) := by decide +kernel
theorem dX4_might_10 : decode cX4_might 10 = .ok (.iload_n 2, 1) := by decide +kernel
theorem dX4_might_11 : decode cX4_might 11 = .ok (.ireturn, 1) := by decide +kernel
theorem dX4_might_12 : decode cX4_might 12 = .ok (.iconst 0, 1) := by decide +kernel
theorem dX4_might_13 : decode cX4_might 13 = .ok (.istore_n 3, 1) := by decide +kernel
theorem dX4_might_14 : decode cX4_might 14 = .ok (.iconst 0, 1) := by decide +kernel
theorem dX4_might_15 : decode cX4_might 15 = .ok (.istore 4, 2) := by decide +kernel
theorem dX4_might_17 : decode cX4_might 17 = .ok (.iload 4, 2) := by decide +kernel
theorem dX4_might_19 : decode cX4_might 19 = .ok (.aload_n 0, 1) := by decide +kernel
theorem dX4_might_20 : decode cX4_might 20 = .ok (.invokevirtual 60, 3) := by decide +kernel
theorem dX4_might_23 : decode cX4_might 23 = .ok (.if_icmp .ge 27, 3) := by decide +kernel
theorem dX4_might_26 : decode cX4_might 26 = .ok (.aload_n 0, 1) := by decide +kernel
theorem dX4_might_27 : decode cX4_might 27 = .ok (.getfield 25, 3) := by decide +kernel
theorem dX4_might_30 : decode cX4_might 30 = .ok (.iload_n 1, 1) := by decide +kernel
theorem dX4_might_31 : decode cX4_might 31 = .ok (.iload 4, 2) := by decide +kernel
theorem dX4_might_33 : decode cX4_might 33 = .ok (.invokevirtual 165, 3) := by decide +kernel
theorem dX4_might_36 : decode cX4_might 36 = .ok (.lconst 0, 1) := by decide +kernel
theorem dX4_might_37 : decode cX4_might 37 = .ok (.lcmp, 1) := by decide +kernel
theorem dX4_might_38 : decode cX4_might 38 = .ok (.ifCond .le 6, 3) := by decide +kernel
theorem dX4_might_41 : decode cX4_might 41 = .ok (.iinc 3 1, 3) := by decide +kernel
theorem dX4_might_44 : decode cX4_might 44 = .ok (.iinc 4 1, 3) := by decide +kernel
theorem dX4_might_47 : decode cX4_might 47 = .ok (.goto (-30), 3) := by decide +kernel
theorem dX4_might_50 : decode cX4_might 50 = .ok (.iload_n 3, 1) := by decide +kernel
theorem dX4_might_51 : decode cX4_might 51 = .ok (.ireturn, 1) := by decide +kernel
theorem dX4_learns_0 : decode cX4_learns 0 = .ok (.aload_n 0, 1) := by decide +kernel
theorem dX4_learns_1 : decode cX4_learns 1 = .ok (.iload_n 1, 1) := by decide +kernel
theorem dX4_learns_2 : decode cX4_learns 2 = .ok (.invokevirtual 162, 3) := by decide +kernel
theorem dX4_learns_5 : decode cX4_learns 5 = .ok (.istore_n 2, 1) := by decide +kernel
theorem dX4_learns_6 : decode cX4_learns 6 = .ok (.iload_n 2, 1) := by decide +kernel
theorem dX4_learns_7 : decode cX4_learns 7 = .ok (.ifCond .eq 5, 3) := by decide +kernel
theorem dX4_learns_10 : decode cX4_learns 10 = .ok (.iload_n 2, 1) := by decide +kernel
theorem dX4_learns_11 : decode cX4_learns 11 = .ok (.ireturn, 1) := by decide +kernel
theorem dX4_learns_12 : decode cX4_learns 12 = .ok (.aload_n 0, 1) := by decide +kernel
theorem dX4_learns_13 : decode cX4_learns 13 = .ok (.iload_n 1, 1) := by decide +kernel
theorem dX4_learns_14 : decode cX4_learns 14 = .ok (.invokevirtual 171, 3) := by decide +kernel
theorem dX4_learns_17 : decode cX4_learns 17 = .ok (.ifCond .eq 7, 3) := by decide +kernel
theorem dX4_learns_20 : decode cX4_learns 20 = .ok (.iconst 1, 1) := by decide +kernel
theorem dX4_learns_21 : decode cX4_learns 21 = .ok (.goto 4, 3) := by decide +kernel
theorem dX4_learns_24 : decode cX4_learns 24 = .ok (.iconst 0, 1) := by decide +kernel
theorem dX4_learns_25 : decode cX4_learns 25 = .ok (.ireturn, 1) := by decide +kernel
theorem dX4_least_0 : decode cX4_least 0 = .ok (.aload_n 0, 1) := by decide +kernel
theorem dX4_least_1 : decode cX4_least 1 = .ok (.getfield 25, 3) := by decide +kernel
theorem dX4_least_4 : decode cX4_least 4 = .ok (.getfield 72, 3) := by decide +kernel
theorem dX4_least_7 : decode cX4_least 7 = .ok (.ifCond .ne 6, 3) := by decide +kernel
theorem dX4_least_10 : decode cX4_least 10 = .ok (.bipush (-3), 2) := by decide +kernel
theorem dX4_least_12 : decode cX4_least 12 = .ok (.ireturn, 1) := by decide +kernel
theorem dX4_least_13 : decode cX4_least 13 = .ok (.iconst 2, 1) := by decide +kernel
theorem dX4_least_14 : decode cX4_least 14 = .ok (.istore_n 1, 1) := by decide +kernel
theorem dX4_least_15 : decode cX4_least 15 = .ok (.iload_n 1, 1) := by decide +kernel
theorem dX4_least_16 : decode cX4_least 16 = .ok (.sipush 1022, 3) := by decide +kernel
theorem dX4_least_19 : decode cX4_least 19 = .ok (.if_icmp .gt 19, 3) := by decide +kernel
theorem dX4_least_22 : decode cX4_least 22 = .ok (.aload_n 0, 1) := by decide +kernel
theorem dX4_least_23 : decode cX4_least 23 = .ok (.iload_n 1, 1) := by decide +kernel
theorem dX4_least_24 : decode cX4_least 24 = .ok (.invokevirtual 171, 3) := by decide +kernel
theorem dX4_least_27 : decode cX4_least 27 = .ok (.ifCond .eq 5, 3) := by decide +kernel
theorem dX4_least_30 : decode cX4_least 30 = .ok (.iload_n 1, 1) := by decide +kernel
theorem dX4_least_31 : decode cX4_least 31 = .ok (.ireturn, 1) := by decide +kernel
theorem dX4_least_32 : decode cX4_least 32 = .ok (.iinc 1 2, 3) := by decide +kernel
theorem dX4_least_35 : decode cX4_least 35 = .ok (.goto (-20), 3) := by decide +kernel
theorem dX4_least_38 : decode cX4_least 38 = .ok (.bipush (-9), 2) := by decide +kernel
theorem dX4_least_40 : decode cX4_least 40 = .ok (.ireturn, 1) := by decide +kernel
theorem dX4_fits_0 : decode cX4_fits 0 = .ok (.iload_n 1, 1) := by decide +kernel
theorem dX4_fits_1 : decode cX4_fits 1 = .ok (.invokestatic 83, 3) := by decide +kernel
theorem dX4_fits_4 : decode cX4_fits 4 = .ok (.ifCond .eq 10, 3) := by decide +kernel
theorem dX4_fits_7 : decode cX4_fits 7 = .ok (.iload_n 2, 1) := by decide +kernel
theorem dX4_fits_8 : decode cX4_fits 8 = .ok (.invokestatic 80, 3) := by decide +kernel
theorem dX4_fits_11 : decode cX4_fits 11 = .ok (.ifCond .ne 6, 3) := by decide +kernel
theorem dX4_fits_14 : decode cX4_fits 14 = .ok (.bipush (-2), 2) := by decide +kernel
theorem dX4_fits_16 : decode cX4_fits 16 = .ok (.ireturn, 1) := by decide +kernel
theorem dX4_fits_17 : decode cX4_fits 17 = .ok (.aload_n 0, 1) := by decide +kernel
theorem dX4_fits_18 : decode cX4_fits 18 = .ok (.iload_n 1, 1) := by decide +kernel
theorem dX4_fits_19 : decode cX4_fits 19 = .ok (.invokevirtual 134, 3) := by decide +kernel
theorem dX4_fits_22 : decode cX4_fits 22 = .ok (.istore_n 3, 1) := by decide +kernel
theorem dX4_fits_23 : decode cX4_fits 23 = .ok (.iload_n 3, 1) := by decide +kernel
theorem dX4_fits_24 : decode cX4_fits 24 = .ok (.ifCond .eq 5, 3) := by decide +kernel
theorem dX4_fits_27 : decode cX4_fits 27 = .ok (.iload_n 3, 1) := by decide +kernel
theorem dX4_fits_28 : decode cX4_fits 28 = .ok (.ireturn, 1) := by decide +kernel
theorem dX4_fits_29 : decode cX4_fits 29 = .ok (.aload_n 0, 1) := by decide +kernel
theorem dX4_fits_30 : decode cX4_fits 30 = .ok (.iload_n 1, 1) := by decide +kernel
theorem dX4_fits_31 : decode cX4_fits 31 = .ok (.invokevirtual 137, 3) := by decide +kernel
theorem dX4_fits_34 : decode cX4_fits 34 = .ok (.aload_n 0, 1) := by decide +kernel
theorem dX4_fits_35 : decode cX4_fits 35 = .ok (.getfield 39, 3) := by decide +kernel
theorem dX4_fits_38 : decode cX4_fits 38 = .ok (.aload_n 0, 1) := by decide +kernel
theorem dX4_fits_39 : decode cX4_fits 39 = .ok (.getfield 32, 3) := by decide +kernel
theorem dX4_fits_42 : decode cX4_fits 42 = .ok (.aload_n 0, 1) := by decide +kernel
theorem dX4_fits_43 : decode cX4_fits 43 = .ok (.invokevirtual 174, 3) := by decide +kernel
theorem dX4_fits_46 : decode cX4_fits 46 = .ok (.invokevirtual 177, 3) := by decide +kernel
theorem dX4_fits_49 : decode cX4_fits 49 = .ok (.aload_n 0, 1) := by decide +kernel
theorem dX4_fits_50 : decode cX4_fits 50 = .ok (.getfield 32, 3) := by decide +kernel
theorem dX4_fits_53 : decode cX4_fits 53 = .ok (.aload_n 0, 1) := by decide +kernel
theorem dX4_fits_54 : decode cX4_fits 54 = .ok (.getfield 39, 3) := by decide +kernel
theorem dX4_fits_57 : decode cX4_fits 57 = .ok (.invokevirtual 181, 3) := by decide +kernel
theorem dX4_fits_60 : decode cX4_fits 60 = .ok (.aload_n 0, 1) := by decide +kernel
theorem dX4_fits_61 : decode cX4_fits 61 = .ok (.getfield 32, 3) := by decide +kernel
theorem dX4_fits_64 : decode cX4_fits 64 = .ok (.getfield 140, 3) := by decide +kernel
theorem dX4_fits_67 : decode cX4_fits 67 = .ok (.if_icmp .ne 19, 3) := by decide +kernel
theorem dX4_fits_70 : decode cX4_fits 70 = .ok (.aload_n 0, 1) := by decide +kernel
theorem dX4_fits_71 : decode cX4_fits 71 = .ok (.getfield 39, 3) := by decide +kernel
theorem dX4_fits_74 : decode cX4_fits 74 = .ok (.iconst 0, 1) := by decide +kernel
theorem dX4_fits_75 : decode cX4_fits 75 = .ok (.invokevirtual 153, 3) := by decide +kernel
theorem dX4_fits_78 : decode cX4_fits 78 = .ok (.iload_n 2, 1) := by decide +kernel
theorem dX4_fits_79 : decode cX4_fits 79 = .ok (.if_icmp .ne 7, 3) := by decide +kernel
theorem dX4_fits_82 : decode cX4_fits 82 = .ok (.iconst 1, 1) := by decide +kernel
theorem dX4_fits_83 : decode cX4_fits 83 = .ok (.goto 4, 3) := by decide +kernel
theorem dX4_fits_86 : decode cX4_fits 86 = .ok (.iconst 0, 1) := by decide +kernel
theorem dX4_fits_87 : decode cX4_fits 87 = .ok (.ireturn, 1) := by decide +kernel
theorem dX4_both_0 : decode cX4_both 0 = .ok (.iload_n 1, 1) := by decide +kernel
theorem dX4_both_1 : decode cX4_both 1 = .ok (.invokestatic 83, 3) := by decide +kernel
theorem dX4_both_4 : decode cX4_both 4 = .ok (.ifCond .ne 5, 3) := by decide +kernel
theorem dX4_both_7 : decode cX4_both 7 = .ok (.iconst (-1), 1) := by decide +kernel
theorem dX4_both_8 : decode cX4_both 8 = .ok (.ireturn, 1) := by decide +kernel
theorem dX4_both_9 : decode cX4_both 9 = .ok (.aload_n 0, 1) := by decide +kernel
theorem dX4_both_10 : decode cX4_both 10 = .ok (.iload_n 2, 1) := by decide +kernel
theorem dX4_both_11 : decode cX4_both 11 = .ok (.invokevirtual 184, 3) := by decide +kernel
theorem dX4_both_14 : decode cX4_both 14 = .ok (.ifCond .ne 6, 3) := by decide +kernel
theorem dX4_both_17 : decode cX4_both 17 = .ok (.bipush (-2), 2) := by decide +kernel
theorem dX4_both_19 : decode cX4_both 19 = .ok (.ireturn, 1) := by decide +kernel
theorem dX4_both_20 : decode cX4_both 20 = .ok (.aload_n 0, 1) := by decide +kernel
theorem dX4_both_21 : decode cX4_both 21 = .ok (.iload_n 1, 1) := by decide +kernel
theorem dX4_both_22 : decode cX4_both 22 = .ok (.invokevirtual 64, 3) := by decide +kernel
theorem dX4_both_25 : decode cX4_both 25 = .ok (.astore_n 3, 1) := by decide +kernel
theorem dX4_both_26 : decode cX4_both 26 = .ok (.aload_n 3, 1) := by decide +kernel
theorem dX4_both_27 : decode cX4_both 27 = .ok (.getfield 92, 3) := by decide +kernel
theorem dX4_both_30 : decode cX4_both 30 = .ok (.iconst 3, 1) := by decide +kernel
theorem dX4_both_31 : decode cX4_both 31 = .ok (.if_icmp .ne 8, 3) := by decide +kernel
theorem dX4_both_34 : decode cX4_both 34 = .ok (.bipush (-9), 2) := by decide +kernel
theorem dX4_both_36 : decode cX4_both 36 = .ok (.goto 9, 3) := by decide +kernel
theorem dX4_both_39 : decode cX4_both 39 = .ok (.aload_n 0, 1) := by decide +kernel
theorem dX4_both_40 : decode cX4_both 40 = .ok (.aload_n 3, 1) := by decide +kernel
theorem dX4_both_41 : decode cX4_both 41 = .ok (.iload_n 2, 1) := by decide +kernel
theorem dX4_both_42 : decode cX4_both 42 = .ok (.invokevirtual 187, 3) := by decide +kernel
theorem dX4_both_45 : decode cX4_both 45 = .ok (.ireturn, 1) := by decide +kernel
theorem dX4_pair_0 : decode cX4_pair 0 = .ok (.iload_n 1, 1) := by decide +kernel
theorem dX4_pair_1 : decode cX4_pair 1 = .ok (.invokestatic 83, 3) := by decide +kernel
theorem dX4_pair_4 : decode cX4_pair 4 = .ok (.ifCond .eq 19, 3) := by decide +kernel
theorem dX4_pair_7 : decode cX4_pair 7 = .ok (.iload_n 2, 1) := by decide +kernel
theorem dX4_pair_8 : decode cX4_pair 8 = .ok (.invokestatic 83, 3) := by decide +kernel
theorem dX4_pair_11 : decode cX4_pair 11 = .ok (.ifCond .eq 12, 3) := by decide +kernel
theorem dX4_pair_14 : decode cX4_pair 14 = .ok (.aload_n 0, 1) := by decide +kernel
theorem dX4_pair_15 : decode cX4_pair 15 = .ok (.iload 4, 2) := by decide +kernel
theorem dX4_pair_17 : decode cX4_pair 17 = .ok (.invokevirtual 76, 3) := by decide +kernel
theorem dX4_pair_20 : decode cX4_pair 20 = .ok (.ifCond .ne 5, 3) := by decide +kernel
theorem dX4_pair_23 : decode cX4_pair 23 = .ok (.iconst (-1), 1) := by decide +kernel
theorem dX4_pair_24 : decode cX4_pair 24 = .ok (.ireturn, 1) := by decide +kernel
theorem dX4_pair_25 : decode cX4_pair 25 = .ok (.iload_n 1, 1) := by decide +kernel
theorem dX4_pair_26 : decode cX4_pair 26 = .ok (.iload_n 2, 1) := by decide +kernel
theorem dX4_pair_27 : decode cX4_pair 27 = .ok (.if_icmp .ne 6, 3) := by decide +kernel
theorem dX4_pair_30 : decode cX4_pair 30 = .ok (.bipush (-3), 2) := by decide +kernel
theorem dX4_pair_32 : decode cX4_pair 32 = .ok (.ireturn, 1) := by decide +kernel
theorem dX4_pair_33 : decode cX4_pair 33 = .ok (.aload_n 0, 1) := by decide +kernel
theorem dX4_pair_34 : decode cX4_pair 34 = .ok (.iload_n 3, 1) := by decide +kernel
theorem dX4_pair_35 : decode cX4_pair 35 = .ok (.invokevirtual 184, 3) := by decide +kernel
theorem dX4_pair_38 : decode cX4_pair 38 = .ok (.ifCond .ne 6, 3) := by decide +kernel
theorem dX4_pair_41 : decode cX4_pair 41 = .ok (.bipush (-2), 2) := by decide +kernel
theorem dX4_pair_43 : decode cX4_pair 43 = .ok (.ireturn, 1) := by decide +kernel
theorem dX4_pair_44 : decode cX4_pair 44 = .ok (.aload_n 0, 1) := by decide +kernel
theorem dX4_pair_45 : decode cX4_pair 45 = .ok (.iload_n 1, 1) := by decide +kernel
theorem dX4_pair_46 : decode cX4_pair 46 = .ok (.invokevirtual 64, 3) := by decide +kernel
theorem dX4_pair_49 : decode cX4_pair 49 = .ok (.astore 5, 2) := by decide +kernel
theorem dX4_pair_51 : decode cX4_pair 51 = .ok (.aload_n 0, 1) := by decide +kernel
theorem dX4_pair_52 : decode cX4_pair 52 = .ok (.iload_n 2, 1) := by decide +kernel
theorem dX4_pair_53 : decode cX4_pair 53 = .ok (.invokevirtual 64, 3) := by decide +kernel
theorem dX4_pair_56 : decode cX4_pair 56 = .ok (.astore 6, 2) := by decide +kernel
theorem dX4_pair_58 : decode cX4_pair 58 = .ok (.aload 5, 2) := by decide +kernel
theorem dX4_pair_60 : decode cX4_pair 60 = .ok (.getfield 92, 3) := by decide +kernel
theorem dX4_pair_63 : decode cX4_pair 63 = .ok (.iconst 3, 1) := by decide +kernel
theorem dX4_pair_64 : decode cX4_pair 64 = .ok (.if_icmp .eq 12, 3) := by decide +kernel
theorem dX4_pair_67 : decode cX4_pair 67 = .ok (.aload 6, 2) := by decide +kernel
theorem dX4_pair_69 : decode cX4_pair 69 = .ok (.getfield 92, 3) := by decide +kernel
theorem dX4_pair_72 : decode cX4_pair 72 = .ok (.iconst 3, 1) := by decide +kernel
theorem dX4_pair_73 : decode cX4_pair 73 = .ok (.if_icmp .ne 6, 3) := by decide +kernel
theorem dX4_pair_76 : decode cX4_pair 76 = .ok (.bipush (-9), 2) := by decide +kernel
theorem dX4_pair_78 : decode cX4_pair 78 = .ok (.ireturn, 1) := by decide +kernel
theorem dX4_pair_79 : decode cX4_pair 79 = .ok (.aload_n 0, 1) := by decide +kernel
theorem dX4_pair_80 : decode cX4_pair 80 = .ok (.aload 5, 2) := by decide +kernel
theorem dX4_pair_82 : decode cX4_pair 82 = .ok (.iload_n 3, 1) := by decide +kernel
theorem dX4_pair_83 : decode cX4_pair 83 = .ok (.invokevirtual 187, 3) := by decide +kernel
theorem dX4_pair_86 : decode cX4_pair 86 = .ok (.aload_n 0, 1) := by decide +kernel
theorem dX4_pair_87 : decode cX4_pair 87 = .ok (.aload 6, 2) := by decide +kernel
theorem dX4_pair_89 : decode cX4_pair 89 = .ok (.iload_n 3, 1) := by decide +kernel
theorem dX4_pair_90 : decode cX4_pair 90 = .ok (.iconst 1, 1) := by decide +kernel
theorem dX4_pair_91 : decode cX4_pair 91 = .ok (.iload 4, 2) := by decide +kernel
theorem dX4_pair_93 : decode cX4_pair 93 = .ok (.ishl, 1) := by decide +kernel
theorem dX4_pair_94 : decode cX4_pair 94 = .ok (.ixor, 1) := by decide +kernel
theorem dX4_pair_95 : decode cX4_pair 95 = .ok (.invokevirtual 187, 3) := by decide +kernel
theorem dX4_pair_98 : decode cX4_pair 98 = .ok (.ixor, 1) := by decide +kernel
theorem dX4_pair_99 : decode cX4_pair 99 = .ok (.ireturn, 1) := by decide +kernel
theorem dX4_total_0 : decode cX4_total 0 = .ok (.iload_n 1, 1) := by decide +kernel
theorem dX4_total_1 : decode cX4_total 1 = .ok (.tableswitch 107 0 6 #[43, 48, 53, 58, 63, 68, 84], 43) := by decide +kernel
theorem dX4_total_44 : decode cX4_total 44 = .ok (.aload_n 0, 1) := by decide +kernel
theorem dX4_total_45 : decode cX4_total 45 = .ok (.invokevirtual 60, 3) := by decide +kernel
theorem dX4_total_48 : decode cX4_total 48 = .ok (.ireturn, 1) := by decide +kernel
theorem dX4_total_49 : decode cX4_total 49 = .ok (.aload_n 0, 1) := by decide +kernel
theorem dX4_total_50 : decode cX4_total 50 = .ok (.getfield 50, 3) := by decide +kernel
theorem dX4_total_53 : decode cX4_total 53 = .ok (.ireturn, 1) := by decide +kernel
theorem dX4_total_54 : decode cX4_total 54 = .ok (.aload_n 0, 1) := by decide +kernel
theorem dX4_total_55 : decode cX4_total 55 = .ok (.getfield 53, 3) := by decide +kernel
theorem dX4_total_58 : decode cX4_total 58 = .ok (.ireturn, 1) := by decide +kernel
theorem dX4_total_59 : decode cX4_total 59 = .ok (.aload_n 0, 1) := by decide +kernel
theorem dX4_total_60 : decode cX4_total 60 = .ok (.getfield 56, 3) := by decide +kernel
theorem dX4_total_63 : decode cX4_total 63 = .ok (.ireturn, 1) := by decide +kernel
theorem dX4_total_64 : decode cX4_total 64 = .ok (.aload_n 0, 1) := by decide +kernel
theorem dX4_total_65 : decode cX4_total 65 = .ok (.invokevirtual 190, 3) := by decide +kernel
theorem dX4_total_68 : decode cX4_total 68 = .ok (.ireturn, 1) := by decide +kernel
theorem dX4_total_69 : decode cX4_total 69 = .ok (.aload_n 0, 1) := by decide +kernel
theorem dX4_total_70 : decode cX4_total 70 = .ok (.getfield 25, 3) := by decide +kernel
theorem dX4_total_73 : decode cX4_total 73 = .ok (.getfield 72, 3) := by decide +kernel
theorem dX4_total_76 : decode cX4_total 76 = .ok (.ifCond .eq 7, 3) := by decide +kernel
theorem dX4_total_79 : decode cX4_total 79 = .ok (.iconst 1, 1) := by decide +kernel
theorem dX4_total_80 : decode cX4_total 80 = .ok (.goto 4, 3) := by decide +kernel
theorem dX4_total_83 : decode cX4_total 83 = .ok (.iconst 0, 1) := by decide +kernel
theorem dX4_total_84 : decode cX4_total 84 = .ok (.ireturn, 1) := by decide +kernel
theorem dX4_total_85 : decode cX4_total 85 = .ok (.aload_n 0, 1) := by decide +kernel
theorem dX4_total_86 : decode cX4_total 86 = .ok (.getfield 25, 3) := by decide +kernel
theorem dX4_total_89 : decode cX4_total 89 = .ok (.getfield 72, 3) := by decide +kernel
theorem dX4_total_92 : decode cX4_total 92 = .ok (.ifCond .eq 13, 3) := by decide +kernel
theorem dX4_total_95 : decode cX4_total 95 = .ok (.aload_n 0, 1) := by decide +kernel
theorem dX4_total_96 : decode cX4_total 96 = .ok (.getfield 25, 3) := by decide +kernel
theorem dX4_total_99 : decode cX4_total 99 = .ok (.getfield 116, 3) := by decide +kernel
theorem dX4_total_102 : decode cX4_total 102 = .ok (.goto 5, 3) := by decide +kernel
theorem dX4_total_105 : decode cX4_total 105 = .ok (.bipush (-9), 2) := by decide +kernel
theorem dX4_total_107 : decode cX4_total 107 = .ok (.ireturn, 1) := by decide +kernel
theorem dX4_total_108 : decode cX4_total 108 = .ok (.bipush (-2), 2) := by decide +kernel
theorem dX4_total_110 : decode cX4_total 110 = .ok (.ireturn, 1) := by decide +kernel
theorem dX4_count_0 : decode cX4_count 0 = .ok (.iconst 1, 1) := by decide +kernel
theorem dX4_count_1 : decode cX4_count 1 = .ok (.aload_n 0, 1) := by decide +kernel
theorem dX4_count_2 : decode cX4_count 2 = .ok (.getfield 43, 3) := by decide +kernel
theorem dX4_count_5 : decode cX4_count 5 = .ok (.ishl, 1) := by decide +kernel
theorem dX4_count_6 : decode cX4_count 6 = .ok (.ireturn, 1) := by decide +kernel
theorem dX4_isRecord_0 : decode cX4_isRecord 0 = .ok (.iload_n 1, 1) := by decide +kernel
theorem dX4_isRecord_1 : decode cX4_isRecord 1 = .ok (.ifCond .lt 15, 3) := by decide +kernel
theorem dX4_isRecord_4 : decode cX4_isRecord 4 = .ok (.iload_n 1, 1) := by decide +kernel
theorem dX4_isRecord_5 : decode cX4_isRecord 5 = .ok (.aload_n 0, 1) := by decide +kernel
theorem dX4_isRecord_6 : decode cX4_isRecord 6 = .ok (.invokevirtual 60, 3) := by decide +kernel
theorem dX4_isRecord_9 : decode cX4_isRecord 9 = .ok (.if_icmp .ge 7, 3) := by decide +kernel
theorem dX4_isRecord_12 : decode cX4_isRecord 12 = .ok (.iconst 1, 1) := by decide +kernel
theorem dX4_isRecord_13 : decode cX4_isRecord 13 = .ok (.goto 4, 3) := by decide +kernel
theorem dX4_isRecord_16 : decode cX4_isRecord 16 = .ok (.iconst 0, 1) := by decide +kernel
theorem dX4_isRecord_17 : decode cX4_isRecord 17 = .ok (.ireturn, 1) := by decide +kernel
theorem dX4_isRecordSet_0 : decode cX4_isRecordSet 0 = .ok (.iload_n 1, 1) := by decide +kernel
theorem dX4_isRecordSet_1 : decode cX4_isRecordSet 1 = .ok (.ifCond .lt 17, 3) := by decide +kernel
theorem dX4_isRecordSet_4 : decode cX4_isRecordSet 4 = .ok (.iload_n 1, 1) := by decide +kernel
theorem dX4_isRecordSet_5 : decode cX4_isRecordSet 5 = .ok (.iconst 1, 1) := by decide +kernel
theorem dX4_isRecordSet_6 : decode cX4_isRecordSet 6 = .ok (.aload_n 0, 1) := by decide +kernel
theorem dX4_isRecordSet_7 : decode cX4_isRecordSet 7 = .ok (.invokevirtual 60, 3) := by decide +kernel
theorem dX4_isRecordSet_10 : decode cX4_isRecordSet 10 = .ok (.ishl, 1) := by decide +kernel
theorem dX4_isRecordSet_11 : decode cX4_isRecordSet 11 = .ok (.if_icmp .ge 7, 3) := by decide +kernel
theorem dX4_isRecordSet_14 : decode cX4_isRecordSet 14 = .ok (.iconst 1, 1) := by decide +kernel
theorem dX4_isRecordSet_15 : decode cX4_isRecordSet 15 = .ok (.goto 4, 3) := by decide +kernel
theorem dX4_isRecordSet_18 : decode cX4_isRecordSet 18 = .ok (.iconst 0, 1) := by decide +kernel
theorem dX4_isRecordSet_19 : decode cX4_isRecordSet 19 = .ok (.ireturn, 1) := by decide +kernel
theorem dX4_isStore_0 : decode cX4_isStore 0 = .ok (.iload_n 0, 1) := by decide +kernel
theorem dX4_isStore_1 : decode cX4_isStore 1 = .ok (.iconst 1, 1) := by decide +kernel
theorem dX4_isStore_2 : decode cX4_isStore 2 = .ok (.if_icmp .lt 13, 3) := by decide +kernel
theorem dX4_isStore_5 : decode cX4_isStore 5 = .ok (.iload_n 0, 1) := by decide +kernel
theorem dX4_isStore_6 : decode cX4_isStore 6 = .ok (.bipush 9, 2) := by decide +kernel
theorem dX4_isStore_8 : decode cX4_isStore 8 = .ok (.if_icmp .gt 7, 3) := by decide +kernel
theorem dX4_isStore_11 : decode cX4_isStore 11 = .ok (.iconst 1, 1) := by decide +kernel
theorem dX4_isStore_12 : decode cX4_isStore 12 = .ok (.goto 4, 3) := by decide +kernel
theorem dX4_isStore_15 : decode cX4_isStore 15 = .ok (.iconst 0, 1) := by decide +kernel
theorem dX4_isStore_16 : decode cX4_isStore 16 = .ok (.ireturn, 1) := by decide +kernel
theorem dX4_isNumber_0 : decode cX4_isNumber 0 = .ok (.iload_n 0, 1) := by decide +kernel
theorem dX4_isNumber_1 : decode cX4_isNumber 1 = .ok (.ifCond .lt 13, 3) := by decide +kernel
theorem dX4_isNumber_4 : decode cX4_isNumber 4 = .ok (.iload_n 0, 1) := by decide +kernel
theorem dX4_isNumber_5 : decode cX4_isNumber 5 = .ok (.bipush 97, 2) := by decide +kernel
theorem dX4_isNumber_7 : decode cX4_isNumber 7 = .ok (.if_icmp .ge 7, 3) := by decide +kernel
theorem dX4_isNumber_10 : decode cX4_isNumber 10 = .ok (.iconst 1, 1) := by decide +kernel
theorem dX4_isNumber_11 : decode cX4_isNumber 11 = .ok (.goto 4, 3) := by decide +kernel
theorem dX4_isNumber_14 : decode cX4_isNumber 14 = .ok (.iconst 0, 1) := by decide +kernel
theorem dX4_isNumber_15 : decode cX4_isNumber 15 = .ok (.ireturn, 1) := by decide +kernel
theorem dX4_isKind_0 : decode cX4_isKind 0 = .ok (.iload_n 0, 1) := by decide +kernel
theorem dX4_isKind_1 : decode cX4_isKind 1 = .ok (.ifCond .lt 12, 3) := by decide +kernel
theorem dX4_isKind_4 : decode cX4_isKind 4 = .ok (.iload_n 0, 1) := by decide +kernel
theorem dX4_isKind_5 : decode cX4_isKind 5 = .ok (.iconst 3, 1) := by decide +kernel
theorem dX4_isKind_6 : decode cX4_isKind 6 = .ok (.if_icmp .gt 7, 3) := by decide +kernel
theorem dX4_isKind_9 : decode cX4_isKind 9 = .ok (.iconst 1, 1) := by decide +kernel
theorem dX4_isKind_10 : decode cX4_isKind 10 = .ok (.goto 4, 3) := by decide +kernel
theorem dX4_isKind_13 : decode cX4_isKind 13 = .ok (.iconst 0, 1) := by decide +kernel
theorem dX4_isKind_14 : decode cX4_isKind 14 = .ok (.ireturn, 1) := by decide +kernel
theorem dX4_isLie_0 : decode cX4_isLie 0 = .ok (.iload_n 0, 1) := by decide +kernel
theorem dX4_isLie_1 : decode cX4_isLie 1 = .ok (.iconst 1, 1) := by decide +kernel
theorem dX4_isLie_2 : decode cX4_isLie 2 = .ok (.if_icmp .lt 13, 3) := by decide +kernel
theorem dX4_isLie_5 : decode cX4_isLie 5 = .ok (.iload_n 0, 1) := by decide +kernel
theorem dX4_isLie_6 : decode cX4_isLie 6 = .ok (.bipush 97, 2) := by decide +kernel
theorem dX4_isLie_8 : decode cX4_isLie 8 = .ok (.if_icmp .ge 7, 3) := by decide +kernel
theorem dX4_isLie_11 : decode cX4_isLie 11 = .ok (.iconst 1, 1) := by decide +kernel
theorem dX4_isLie_12 : decode cX4_isLie 12 = .ok (.goto 4, 3) := by decide +kernel
theorem dX4_isLie_15 : decode cX4_isLie 15 = .ok (.iconst 0, 1) := by decide +kernel
theorem dX4_isLie_16 : decode cX4_isLie 16 = .ok (.ireturn, 1) := by decide +kernel
theorem dX4_isKeptFrom_0 : decode cX4_isKeptFrom 0 = .ok (.iload_n 0, 1) := by decide +kernel
theorem dX4_isKeptFrom_1 : decode cX4_isKeptFrom 1 = .ok (.iconst 1, 1) := by decide +kernel
theorem dX4_isKeptFrom_2 : decode cX4_isKeptFrom 2 = .ok (.if_icmp .lt 12, 3) := by decide +kernel
theorem dX4_isKeptFrom_5 : decode cX4_isKeptFrom 5 = .ok (.iload_n 0, 1) := by decide +kernel
theorem dX4_isKeptFrom_6 : decode cX4_isKeptFrom 6 = .ok (.iconst 2, 1) := by decide +kernel
theorem dX4_isKeptFrom_7 : decode cX4_isKeptFrom 7 = .ok (.if_icmp .gt 7, 3) := by decide +kernel
theorem dX4_isKeptFrom_10 : decode cX4_isKeptFrom 10 = .ok (.iconst 1, 1) := by decide +kernel
theorem dX4_isKeptFrom_11 : decode cX4_isKeptFrom 11 = .ok (.goto 4, 3) := by decide +kernel
theorem dX4_isKeptFrom_14 : decode cX4_isKeptFrom 14 = .ok (.iconst 0, 1) := by decide +kernel
theorem dX4_isKeptFrom_15 : decode cX4_isKeptFrom 15 = .ok (.ireturn, 1) := by decide +kernel
theorem dX4_isSeed_0 : decode cX4_isSeed 0 = .ok (.iload_n 0, 1) := by decide +kernel
theorem dX4_isSeed_1 : decode cX4_isSeed 1 = .ok (.ifCond .lt 7, 3) := by decide +kernel
theorem dX4_isSeed_4 : decode cX4_isSeed 4 = .ok (.iconst 1, 1) := by decide +kernel
theorem dX4_isSeed_5 : decode cX4_isSeed 5 = .ok (.goto 4, 3) := by decide +kernel
theorem dX4_isSeed_8 : decode cX4_isSeed 8 = .ok (.iconst 0, 1) := by decide +kernel
theorem dX4_isSeed_9 : decode cX4_isSeed 9 = .ok (.ireturn, 1) := by decide +kernel
theorem dX4_refusalOfFetch_0 : decode cX4_refusalOfFetch 0 = .ok (.iload_n 1, 1) := by decide +kernel
theorem dX4_refusalOfFetch_1 : decode cX4_refusalOfFetch 1 = .ok (.invokestatic 83, 3) := by decide +kernel
theorem dX4_refusalOfFetch_4 : decode cX4_refusalOfFetch 4 = .ok (.ifCond .ne 6, 3) := by decide +kernel
theorem dX4_refusalOfFetch_7 : decode cX4_refusalOfFetch 7 = .ok (.bipush (-2), 2) := by decide +kernel
theorem dX4_refusalOfFetch_9 : decode cX4_refusalOfFetch 9 = .ok (.ireturn, 1) := by decide +kernel
theorem dX4_refusalOfFetch_10 : decode cX4_refusalOfFetch 10 = .ok (.aload_n 0, 1) := by decide +kernel
theorem dX4_refusalOfFetch_11 : decode cX4_refusalOfFetch 11 = .ok (.getfield 25, 3) := by decide +kernel
theorem dX4_refusalOfFetch_14 : decode cX4_refusalOfFetch 14 = .ok (.getfield 72, 3) := by decide +kernel
theorem dX4_refusalOfFetch_17 : decode cX4_refusalOfFetch 17 = .ok (.ifCond .eq 22, 3) := by decide +kernel
theorem dX4_refusalOfFetch_20 : decode cX4_refusalOfFetch 20 = .ok (.aload_n 0, 1) := by decide +kernel
theorem dX4_refusalOfFetch_21 : decode cX4_refusalOfFetch 21 = .ok (.iload_n 1, 1) := by decide +kernel
theorem dX4_refusalOfFetch_22 : decode cX4_refusalOfFetch 22 = .ok (.invokevirtual 159, 3) := by decide +kernel
theorem dX4_refusalOfFetch_25 : decode cX4_refusalOfFetch 25 = .ok (.aload_n 0, 1) := by decide +kernel
theorem dX4_refusalOfFetch_26 : decode cX4_refusalOfFetch 26 = .ok (.getfield 25, 3) := by decide +kernel
theorem dX4_refusalOfFetch_29 : decode cX4_refusalOfFetch 29 = .ok (.getfield 116, 3) := by decide +kernel
theorem dX4_refusalOfFetch_32 : decode cX4_refusalOfFetch 32 = .ok (.if_icmp .le 7, 3) := by decide +kernel
theorem dX4_refusalOfFetch_35 : decode cX4_refusalOfFetch 35 = .ok (.iconst 0, 1) := by decide +kernel
theorem dX4_refusalOfFetch_36 : decode cX4_refusalOfFetch 36 = .ok (.goto 5, 3) := by decide +kernel
theorem dX4_refusalOfFetch_39 : decode cX4_refusalOfFetch 39 = .ok (.bipush (-3), 2) := by decide +kernel
theorem dX4_refusalOfFetch_41 : decode cX4_refusalOfFetch 41 = .ok (.ireturn, 1) := by decide +kernel
theorem dX4_refusalOfSet_0 : decode cX4_refusalOfSet 0 = .ok (.aload_n 0, 1) := by decide +kernel
theorem dX4_refusalOfSet_1 : decode cX4_refusalOfSet 1 = .ok (.getfield 25, 3) := by decide +kernel
theorem dX4_refusalOfSet_4 : decode cX4_refusalOfSet 4 = .ok (.getfield 72, 3) := by decide +kernel
theorem dX4_refusalOfSet_7 : decode cX4_refusalOfSet 7 = .ok (.ifCond .ne 6, 3) := by decide +kernel
theorem dX4_refusalOfSet_10 : decode cX4_refusalOfSet 10 = .ok (.bipush (-3), 2) := by decide +kernel
theorem dX4_refusalOfSet_12 : decode cX4_refusalOfSet 12 = .ok (.ireturn, 1) := by decide +kernel
theorem dX4_refusalOfSet_13 : decode cX4_refusalOfSet 13 = .ok (.iload_n 1, 1) := by decide +kernel
theorem dX4_refusalOfSet_14 : decode cX4_refusalOfSet 14 = .ok (.ifCond .eq 11, 3) := by decide +kernel
theorem dX4_refusalOfSet_17 : decode cX4_refusalOfSet 17 = .ok (.iload_n 1, 1) := by decide +kernel
theorem dX4_refusalOfSet_18 : decode cX4_refusalOfSet 18 = .ok (.sipush (-1023), 3) := by decide +kernel
theorem dX4_refusalOfSet_21 : decode cX4_refusalOfSet 21 = .ok (.iand, 1) := by decide +kernel
theorem dX4_refusalOfSet_22 : decode cX4_refusalOfSet 22 = .ok (.ifCond .eq 8, 3) := by decide +kernel
theorem dX4_refusalOfSet_25 : decode cX4_refusalOfSet 25 = .ok (.bipush (-2), 2) := by decide +kernel
theorem dX4_refusalOfSet_27 : decode cX4_refusalOfSet 27 = .ok (.goto 4, 3) := by decide +kernel
theorem dX4_refusalOfSet_30 : decode cX4_refusalOfSet 30 = .ok (.iconst 0, 1) := by decide +kernel
theorem dX4_refusalOfSet_31 : decode cX4_refusalOfSet 31 = .ok (.ireturn, 1) := by decide +kernel
theorem dX4_storeOf_0 : decode cX4_storeOf 0 = .ok (.aload_n 0, 1) := by decide +kernel
theorem dX4_storeOf_1 : decode cX4_storeOf 1 = .ok (.getfield 18, 3) := by decide +kernel
theorem dX4_storeOf_4 : decode cX4_storeOf 4 = .ok (.iload_n 1, 1) := by decide +kernel
theorem dX4_storeOf_5 : decode cX4_storeOf 5 = .ok (.iconst 1, 1) := by decide +kernel
theorem dX4_storeOf_6 : decode cX4_storeOf 6 = .ok (.isub, 1) := by decide +kernel
theorem dX4_storeOf_7 : decode cX4_storeOf 7 = .ok (.aaload, 1) := by decide +kernel
theorem dX4_storeOf_8 : decode cX4_storeOf 8 = .ok (.areturn, 1) := by decide +kernel
theorem dX4_trueStores_0 : decode cX4_trueStores 0 = .ok (.iconst 0, 1) := by decide +kernel
theorem dX4_trueStores_1 : decode cX4_trueStores 1 = .ok (.istore_n 1, 1) := by decide +kernel
theorem dX4_trueStores_2 : decode cX4_trueStores 2 = .ok (.iconst 1, 1) := by decide +kernel
theorem dX4_trueStores_3 : decode cX4_trueStores 3 = .ok (.istore_n 2, 1) := by decide +kernel
theorem dX4_trueStores_4 : decode cX4_trueStores 4 = .ok (.iload_n 2, 1) := by decide +kernel
theorem dX4_trueStores_5 : decode cX4_trueStores 5 = .ok (.bipush 9, 2) := by decide +kernel
theorem dX4_trueStores_7 : decode cX4_trueStores 7 = .ok (.if_icmp .gt 23, 3) := by decide +kernel
theorem dX4_trueStores_10 : decode cX4_trueStores 10 = .ok (.aload_n 0, 1) := by decide +kernel
theorem dX4_trueStores_11 : decode cX4_trueStores 11 = .ok (.iload_n 2, 1) := by decide +kernel
theorem dX4_trueStores_12 : decode cX4_trueStores 12 = .ok (.invokevirtual 64, 3) := by decide +kernel
theorem dX4_trueStores_15 : decode cX4_trueStores 15 = .ok (.getfield 92, 3) := by decide +kernel
theorem dX4_trueStores_18 : decode cX4_trueStores 18 = .ok (.ifCond .ne 6, 3) := by decide +kernel
theorem dX4_trueStores_21 : decode cX4_trueStores 21 = .ok (.iinc 1 1, 3) := by decide +kernel
theorem dX4_trueStores_24 : decode cX4_trueStores 24 = .ok (.iinc 2 1, 3) := by decide +kernel
theorem dX4_trueStores_27 : decode cX4_trueStores 27 = .ok (.goto (-23), 3) := by decide +kernel
theorem dX4_trueStores_30 : decode cX4_trueStores 30 = .ok (.iload_n 1, 1) := by decide +kernel
theorem dX4_trueStores_31 : decode cX4_trueStores 31 = .ok (.ireturn, 1) := by decide +kernel
theorem dX4_tellingStores_0 : decode cX4_tellingStores 0 = .ok (.iconst 0, 1) := by decide +kernel
theorem dX4_tellingStores_1 : decode cX4_tellingStores 1 = .ok (.istore_n 2, 1) := by decide +kernel
theorem dX4_tellingStores_2 : decode cX4_tellingStores 2 = .ok (.iconst 1, 1) := by decide +kernel
theorem dX4_tellingStores_3 : decode cX4_tellingStores 3 = .ok (.istore_n 3, 1) := by decide +kernel
theorem dX4_tellingStores_4 : decode cX4_tellingStores 4 = .ok (.iload_n 3, 1) := by decide +kernel
theorem dX4_tellingStores_5 : decode cX4_tellingStores 5 = .ok (.iload_n 1, 1) := by decide +kernel
theorem dX4_tellingStores_6 : decode cX4_tellingStores 6 = .ok (.if_icmp .gt 24, 3) := by decide +kernel
theorem dX4_tellingStores_9 : decode cX4_tellingStores 9 = .ok (.aload_n 0, 1) := by decide +kernel
theorem dX4_tellingStores_10 : decode cX4_tellingStores 10 = .ok (.iload_n 3, 1) := by decide +kernel
theorem dX4_tellingStores_11 : decode cX4_tellingStores 11 = .ok (.invokevirtual 64, 3) := by decide +kernel
theorem dX4_tellingStores_14 : decode cX4_tellingStores 14 = .ok (.getfield 92, 3) := by decide +kernel
theorem dX4_tellingStores_17 : decode cX4_tellingStores 17 = .ok (.iconst 3, 1) := by decide +kernel
theorem dX4_tellingStores_18 : decode cX4_tellingStores 18 = .ok (.if_icmp .eq 6, 3) := by decide +kernel
theorem dX4_tellingStores_21 : decode cX4_tellingStores 21 = .ok (.iinc 2 1, 3) := by decide +kernel
theorem dX4_tellingStores_24 : decode cX4_tellingStores 24 = .ok (.iinc 3 1, 3) := by decide +kernel
theorem dX4_tellingStores_27 : decode cX4_tellingStores 27 = .ok (.goto (-23), 3) := by decide +kernel
theorem dX4_tellingStores_30 : decode cX4_tellingStores 30 = .ok (.iload_n 2, 1) := by decide +kernel
theorem dX4_tellingStores_31 : decode cX4_tellingStores 31 = .ok (.ireturn, 1) := by decide +kernel
theorem dX4_copied_0 : decode cX4_copied 0 = .ok (.aload_n 1, 1) := by decide +kernel
theorem dX4_copied_1 : decode cX4_copied 1 = .ok (.getfield 92, 3) := by decide +kernel
theorem dX4_copied_4 : decode cX4_copied 4 = .ok (.iconst 3, 1) := by decide +kernel
theorem dX4_copied_5 : decode cX4_copied 5 = .ok (.if_icmp .ne 8, 3) := by decide +kernel
theorem dX4_copied_8 : decode cX4_copied 8 = .ok (.bipush (-9), 2) := by decide +kernel
theorem dX4_copied_10 : decode cX4_copied 10 = .ok (.goto 13, 3) := by decide +kernel
theorem dX4_copied_13 : decode cX4_copied 13 = .ok (.aload_n 1, 1) := by decide +kernel
theorem dX4_copied_14 : decode cX4_copied 14 = .ok (.aload_n 0, 1) := by decide +kernel
theorem dX4_copied_15 : decode cX4_copied 15 = .ok (.getfield 9, 3) := by decide +kernel
theorem dX4_copied_18 : decode cX4_copied 18 = .ok (.invokevirtual 193, 3) := by decide +kernel
theorem dX4_copied_21 : decode cX4_copied 21 = .ok (.iload_n 2, 1) := by decide +kernel
theorem dX4_copied_22 : decode cX4_copied 22 = .ok (.iaload, 1) := by decide +kernel
theorem dX4_copied_23 : decode cX4_copied 23 = .ok (.ireturn, 1) := by decide +kernel
theorem dX4_toldBy_0 : decode cX4_toldBy 0 = .ok (.iconst 0, 1) := by decide +kernel
theorem dX4_toldBy_1 : decode cX4_toldBy 1 = .ok (.istore_n 2, 1) := by decide +kernel
theorem dX4_toldBy_2 : decode cX4_toldBy 2 = .ok (.iload_n 2, 1) := by decide +kernel
theorem dX4_toldBy_3 : decode cX4_toldBy 3 = .ok (.aload_n 0, 1) := by decide +kernel
theorem dX4_toldBy_4 : decode cX4_toldBy 4 = .ok (.getfield 43, 3) := by decide +kernel
theorem dX4_toldBy_7 : decode cX4_toldBy 7 = .ok (.if_icmp .ge 24, 3) := by decide +kernel
theorem dX4_toldBy_10 : decode cX4_toldBy 10 = .ok (.aload_n 0, 1) := by decide +kernel
theorem dX4_toldBy_11 : decode cX4_toldBy 11 = .ok (.getfield 13, 3) := by decide +kernel
theorem dX4_toldBy_14 : decode cX4_toldBy 14 = .ok (.iload_n 2, 1) := by decide +kernel
theorem dX4_toldBy_15 : decode cX4_toldBy 15 = .ok (.aload_n 0, 1) := by decide +kernel
theorem dX4_toldBy_16 : decode cX4_toldBy 16 = .ok (.getfield 25, 3) := by decide +kernel
theorem dX4_toldBy_19 : decode cX4_toldBy 19 = .ok (.iload_n 1, 1) := by decide +kernel
theorem dX4_toldBy_20 : decode cX4_toldBy 20 = .ok (.iload_n 2, 1) := by decide +kernel
theorem dX4_toldBy_21 : decode cX4_toldBy 21 = .ok (.invokevirtual 126, 3) := by decide +kernel
theorem dX4_toldBy_24 : decode cX4_toldBy 24 = .ok (.iastore, 1) := by decide +kernel
theorem dX4_toldBy_25 : decode cX4_toldBy 25 = .ok (.iinc 2 1, 3) := by decide +kernel
theorem dX4_toldBy_28 : decode cX4_toldBy 28 = .ok (.goto (-26), 3) := by decide +kernel
theorem dX4_toldBy_31 : decode cX4_toldBy 31 = .ok (.aload_n 0, 1) := by decide +kernel
theorem dX4_toldBy_32 : decode cX4_toldBy 32 = .ok (.iload_n 1, 1) := by decide +kernel
theorem dX4_toldBy_33 : decode cX4_toldBy 33 = .ok (.invokevirtual 64, 3) := by decide +kernel
theorem dX4_toldBy_36 : decode cX4_toldBy 36 = .ok (.astore_n 2, 1) := by decide +kernel
theorem dX4_toldBy_37 : decode cX4_toldBy 37 = .ok (.aload_n 0, 1) := by decide +kernel
theorem dX4_toldBy_38 : decode cX4_toldBy 38 = .ok (.aload_n 2, 1) := by decide +kernel
theorem dX4_toldBy_39 : decode cX4_toldBy 39 = .ok (.aload_n 0, 1) := by decide +kernel
theorem dX4_toldBy_40 : decode cX4_toldBy 40 = .ok (.getfield 9, 3) := by decide +kernel
theorem dX4_toldBy_43 : decode cX4_toldBy 43 = .ok (.invokevirtual 193, 3) := by decide +kernel
theorem dX4_toldBy_46 : decode cX4_toldBy 46 = .ok (.invokevirtual 102, 3) := by decide +kernel
theorem dX4_toldBy_49 : decode cX4_toldBy 49 = .ok (.aload_n 0, 1) := by decide +kernel
theorem dX4_toldBy_50 : decode cX4_toldBy 50 = .ok (.getfield 25, 3) := by decide +kernel
theorem dX4_toldBy_53 : decode cX4_toldBy 53 = .ok (.iload_n 1, 1) := by decide +kernel
theorem dX4_toldBy_54 : decode cX4_toldBy 54 = .ok (.invokevirtual 197, 3) := by decide +kernel
theorem dX4_toldBy_57 : decode cX4_toldBy 57 = .ok (.iadd, 1) := by decide +kernel
