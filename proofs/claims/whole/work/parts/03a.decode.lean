theorem dX0_init_0 : decode cX0_init 0 = .ok (.aload_n 0, 1) := by decide +kernel
theorem dX0_init_1 : decode cX0_init 1 = .ok (.invokespecial 3, 3) := by decide +kernel
theorem dX0_init_4 : decode cX0_init 4 = .ok (.aload_n 0, 1) := by decide +kernel
theorem dX0_init_5 : decode cX0_init 5 = .ok (.aload_n 1, 1) := by decide +kernel
theorem dX0_init_6 : decode cX0_init 6 = .ok (.putfield 9, 3) := by decide +kernel
theorem dX0_init_9 : decode cX0_init 9 = .ok (.aload_n 0, 1) := by decide +kernel
theorem dX0_init_10 : decode cX0_init 10 = .ok (.aload_n 1, 1) := by decide +kernel
theorem dX0_init_11 : decode cX0_init 11 = .ok (.arraylength, 1) := by decide +kernel
theorem dX0_init_12 : decode cX0_init 12 = .ok (.newarray .int, 2) := by decide +kernel
theorem dX0_init_14 : decode cX0_init 14 = .ok (.putfield 15, 3) := by decide +kernel
theorem dX0_init_17 : decode cX0_init 17 = .ok (.aload_n 0, 1) := by decide +kernel
theorem dX0_init_18 : decode cX0_init 18 = .ok (.aload_n 1, 1) := by decide +kernel
theorem dX0_init_19 : decode cX0_init 19 = .ok (.arraylength, 1) := by decide +kernel
theorem dX0_init_20 : decode cX0_init 20 = .ok (.newarray .int, 2) := by decide +kernel
theorem dX0_init_22 : decode cX0_init 22 = .ok (.putfield 19, 3) := by decide +kernel
theorem dX0_init_25 : decode cX0_init 25 = .ok (.return_, 1) := by decide +kernel
set_option maxRecDepth 20000 in
theorem ggX0_clear_J7_fill_53178 : GoodIn wsX0_clear wsJ7_fill_53178 := goodIn_r _ [6] (by decide +kernel) (by decide +kernel)
set_option maxRecDepth 20000 in
theorem gX0_clear_J7_fill_53178 : GoodIn wsX0_clear (va_wsS RX0 26 yJ7_fill_53178 wsJ7_fill_53178) := goodIn_app (goodIn_of _ (by decide +kernel)) ggX0_clear_J7_fill_53178
theorem dX0_clear_0 : decode cX0_clear 0 = .ok (.aload_n 0, 1) := by decide +kernel
theorem dX0_clear_1 : decode cX0_clear 1 = .ok (.iconst 0, 1) := by decide +kernel
theorem dX0_clear_2 : decode cX0_clear 2 = .ok (.putfield 22, 3) := by decide +kernel
theorem dX0_clear_5 : decode cX0_clear 5 = .ok (.aload_n 0, 1) := by decide +kernel
theorem dX0_clear_6 : decode cX0_clear 6 = .ok (.getfield 19, 3) := by decide +kernel
theorem dX0_clear_9 : decode cX0_clear 9 = .ok (.iconst (-1), 1) := by decide +kernel
theorem dX0_clear_10 : decode cX0_clear 10 = .ok (.invokestatic 26, 3) := by decide +kernel
theorem dX0_clear_13 : decode cX0_clear 13 = .ok (.return_, 1) := by decide +kernel
set_option maxRecDepth 20000 in
theorem ggX0_put_X0_seatAt : GoodIn wsX0_put wsX0_seatAt := goodIn_r _ [9, 3, 1, 10, 11, 12, 13] (by decide +kernel) (by decide +kernel)
set_option maxRecDepth 20000 in
theorem gX0_put_X0_seatAt : GoodIn wsX0_put (wsV RX0 32 RX0 yX0_seatAt wsX0_seatAt) := goodIn_app (goodIn_of _ (by decide +kernel)) ggX0_put_X0_seatAt
theorem dX0_put_0 : decode cX0_put 0 = .ok (.aload_n 0, 1) := by decide +kernel
theorem dX0_put_1 : decode cX0_put 1 = .ok (.getfield 19, 3) := by decide +kernel
theorem dX0_put_4 : decode cX0_put 4 = .ok (.iload_n 1, 1) := by decide +kernel
theorem dX0_put_5 : decode cX0_put 5 = .ok (.iaload, 1) := by decide +kernel
theorem dX0_put_6 : decode cX0_put 6 = .ok (.istore_n 2, 1) := by decide +kernel
theorem dX0_put_7 : decode cX0_put 7 = .ok (.iload_n 2, 1) := by decide +kernel
theorem dX0_put_8 : decode cX0_put 8 = .ok (.iconst (-1), 1) := by decide +kernel
theorem dX0_put_9 : decode cX0_put 9 = .ok (.if_icmp .ne 31, 3) := by decide +kernel
theorem dX0_put_12 : decode cX0_put 12 = .ok (.aload_n 0, 1) := by decide +kernel
theorem dX0_put_13 : decode cX0_put 13 = .ok (.getfield 22, 3) := by decide +kernel
theorem dX0_put_16 : decode cX0_put 16 = .ok (.aload_n 0, 1) := by decide +kernel
theorem dX0_put_17 : decode cX0_put 17 = .ok (.getfield 15, 3) := by decide +kernel
theorem dX0_put_20 : decode cX0_put 20 = .ok (.arraylength, 1) := by decide +kernel
theorem dX0_put_21 : decode cX0_put 21 = .ok (.if_icmp .lt 4, 3) := by decide +kernel
theorem dX0_put_24 : decode cX0_put 24 = .ok (.return_, 1) := by decide +kernel
theorem dX0_put_25 : decode cX0_put 25 = .ok (.aload_n 0, 1) := by decide +kernel
theorem dX0_put_26 : decode cX0_put 26 = .ok (.getfield 22, 3) := by decide +kernel
theorem dX0_put_29 : decode cX0_put 29 = .ok (.istore_n 2, 1) := by decide +kernel
theorem dX0_put_30 : decode cX0_put 30 = .ok (.aload_n 0, 1) := by decide +kernel
theorem dX0_put_31 : decode cX0_put 31 = .ok (.dup, 1) := by decide +kernel
theorem dX0_put_32 : decode cX0_put 32 = .ok (.getfield 22, 3) := by decide +kernel
theorem dX0_put_35 : decode cX0_put 35 = .ok (.iconst 1, 1) := by decide +kernel
theorem dX0_put_36 : decode cX0_put 36 = .ok (.iadd, 1) := by decide +kernel
theorem dX0_put_37 : decode cX0_put 37 = .ok (.putfield 22, 3) := by decide +kernel
theorem dX0_put_40 : decode cX0_put 40 = .ok (.iconst 0, 1) := by decide +kernel
theorem dX0_put_41 : decode cX0_put 41 = .ok (.istore_n 3, 1) := by decide +kernel
theorem dX0_put_42 : decode cX0_put 42 = .ok (.iload_n 3, 1) := by decide +kernel
theorem dX0_put_43 : decode cX0_put 43 = .ok (.bipush 32, 2) := by decide +kernel
theorem dX0_put_45 : decode cX0_put 45 = .ok (.if_icmp .ge 60, 3) := by decide +kernel
theorem dX0_put_48 : decode cX0_put 48 = .ok (.iload_n 2, 1) := by decide +kernel
theorem dX0_put_49 : decode cX0_put 49 = .ok (.ifCond .le 56, 3) := by decide +kernel
theorem dX0_put_52 : decode cX0_put 52 = .ok (.iload_n 2, 1) := by decide +kernel
theorem dX0_put_53 : decode cX0_put 53 = .ok (.iconst 1, 1) := by decide +kernel
theorem dX0_put_54 : decode cX0_put 54 = .ok (.isub, 1) := by decide +kernel
theorem dX0_put_55 : decode cX0_put 55 = .ok (.iconst 2, 1) := by decide +kernel
theorem dX0_put_56 : decode cX0_put 56 = .ok (.idiv, 1) := by decide +kernel
theorem dX0_put_57 : decode cX0_put 57 = .ok (.istore 4, 2) := by decide +kernel
theorem dX0_put_59 : decode cX0_put 59 = .ok (.aload_n 0, 1) := by decide +kernel
theorem dX0_put_60 : decode cX0_put 60 = .ok (.getfield 9, 3) := by decide +kernel
theorem dX0_put_63 : decode cX0_put 63 = .ok (.aload_n 0, 1) := by decide +kernel
theorem dX0_put_64 : decode cX0_put 64 = .ok (.getfield 15, 3) := by decide +kernel
theorem dX0_put_67 : decode cX0_put 67 = .ok (.iload 4, 2) := by decide +kernel
theorem dX0_put_69 : decode cX0_put 69 = .ok (.iaload, 1) := by decide +kernel
theorem dX0_put_70 : decode cX0_put 70 = .ok (.laload, 1) := by decide +kernel
theorem dX0_put_71 : decode cX0_put 71 = .ok (.aload_n 0, 1) := by decide +kernel
theorem dX0_put_72 : decode cX0_put 72 = .ok (.getfield 9, 3) := by decide +kernel
theorem dX0_put_75 : decode cX0_put 75 = .ok (.iload_n 1, 1) := by decide +kernel
theorem dX0_put_76 : decode cX0_put 76 = .ok (.laload, 1) := by decide +kernel
theorem dX0_put_77 : decode cX0_put 77 = .ok (.lcmp, 1) := by decide +kernel
theorem dX0_put_78 : decode cX0_put 78 = .ok (.ifCond .gt 6, 3) := by decide +kernel
theorem dX0_put_81 : decode cX0_put 81 = .ok (.goto 24, 3) := by decide +kernel
theorem dX0_put_84 : decode cX0_put 84 = .ok (.aload_n 0, 1) := by decide +kernel
theorem dX0_put_85 : decode cX0_put 85 = .ok (.iload_n 2, 1) := by decide +kernel
theorem dX0_put_86 : decode cX0_put 86 = .ok (.aload_n 0, 1) := by decide +kernel
theorem dX0_put_87 : decode cX0_put 87 = .ok (.getfield 15, 3) := by decide +kernel
theorem dX0_put_90 : decode cX0_put 90 = .ok (.iload 4, 2) := by decide +kernel
theorem dX0_put_92 : decode cX0_put 92 = .ok (.iaload, 1) := by decide +kernel
theorem dX0_put_93 : decode cX0_put 93 = .ok (.invokevirtual 32, 3) := by decide +kernel
theorem dX0_put_96 : decode cX0_put 96 = .ok (.iload 4, 2) := by decide +kernel
theorem dX0_put_98 : decode cX0_put 98 = .ok (.istore_n 2, 1) := by decide +kernel
theorem dX0_put_99 : decode cX0_put 99 = .ok (.iinc 3 1, 3) := by decide +kernel
theorem dX0_put_102 : decode cX0_put 102 = .ok (.goto (-60), 3) := by decide +kernel
theorem dX0_put_105 : decode cX0_put 105 = .ok (.aload_n 0, 1) := by decide +kernel
theorem dX0_put_106 : decode cX0_put 106 = .ok (.iload_n 2, 1) := by decide +kernel
theorem dX0_put_107 : decode cX0_put 107 = .ok (.iload_n 1, 1) := by decide +kernel
theorem dX0_put_108 : decode cX0_put 108 = .ok (.invokevirtual 32, 3) := by decide +kernel
theorem dX0_put_111 : decode cX0_put 111 = .ok (.return_, 1) := by decide +kernel
set_option maxRecDepth 20000 in
theorem ggX0_takeNearest_X0_sinkFromTop : GoodIn wsX0_takeNearest wsX0_sinkFromTop := goodIn_r _ [8, 3, 9, 1, 10, 11, 12, 7, 13, 2, 14, 15, 16, 17] (by decide +kernel) (by decide +kernel)
set_option maxRecDepth 20000 in
theorem gX0_takeNearest_X0_sinkFromTop : GoodIn wsX0_takeNearest (wsV RX0 36 RX0 yX0_sinkFromTop wsX0_sinkFromTop) := goodIn_app (goodIn_of _ (by decide +kernel)) ggX0_takeNearest_X0_sinkFromTop
theorem dX0_takeNearest_0 : decode cX0_takeNearest 0 = .ok (.aload_n 0, 1) := by decide +kernel
theorem dX0_takeNearest_1 : decode cX0_takeNearest 1 = .ok (.getfield 15, 3) := by decide +kernel
theorem dX0_takeNearest_4 : decode cX0_takeNearest 4 = .ok (.iconst 0, 1) := by decide +kernel
theorem dX0_takeNearest_5 : decode cX0_takeNearest 5 = .ok (.iaload, 1) := by decide +kernel
theorem dX0_takeNearest_6 : decode cX0_takeNearest 6 = .ok (.istore_n 1, 1) := by decide +kernel
theorem dX0_takeNearest_7 : decode cX0_takeNearest 7 = .ok (.aload_n 0, 1) := by decide +kernel
theorem dX0_takeNearest_8 : decode cX0_takeNearest 8 = .ok (.getfield 19, 3) := by decide +kernel
theorem dX0_takeNearest_11 : decode cX0_takeNearest 11 = .ok (.iload_n 1, 1) := by decide +kernel
theorem dX0_takeNearest_12 : decode cX0_takeNearest 12 = .ok (.iconst (-1), 1) := by decide +kernel
theorem dX0_takeNearest_13 : decode cX0_takeNearest 13 = .ok (.iastore, 1) := by decide +kernel
theorem dX0_takeNearest_14 : decode cX0_takeNearest 14 = .ok (.aload_n 0, 1) := by decide +kernel
theorem dX0_takeNearest_15 : decode cX0_takeNearest 15 = .ok (.getfield 22, 3) := by decide +kernel
theorem dX0_takeNearest_18 : decode cX0_takeNearest 18 = .ok (.ifCond .le 13, 3) := by decide +kernel
theorem dX0_takeNearest_21 : decode cX0_takeNearest 21 = .ok (.aload_n 0, 1) := by decide +kernel
theorem dX0_takeNearest_22 : decode cX0_takeNearest 22 = .ok (.dup, 1) := by decide +kernel
theorem dX0_takeNearest_23 : decode cX0_takeNearest 23 = .ok (.getfield 22, 3) := by decide +kernel
theorem dX0_takeNearest_26 : decode cX0_takeNearest 26 = .ok (.iconst 1, 1) := by decide +kernel
theorem dX0_takeNearest_27 : decode cX0_takeNearest 27 = .ok (.isub, 1) := by decide +kernel
theorem dX0_takeNearest_28 : decode cX0_takeNearest 28 = .ok (.putfield 22, 3) := by decide +kernel
theorem dX0_takeNearest_31 : decode cX0_takeNearest 31 = .ok (.aload_n 0, 1) := by decide +kernel
theorem dX0_takeNearest_32 : decode cX0_takeNearest 32 = .ok (.getfield 22, 3) := by decide +kernel
theorem dX0_takeNearest_35 : decode cX0_takeNearest 35 = .ok (.ifCond .le 16, 3) := by decide +kernel
theorem dX0_takeNearest_38 : decode cX0_takeNearest 38 = .ok (.aload_n 0, 1) := by decide +kernel
theorem dX0_takeNearest_39 : decode cX0_takeNearest 39 = .ok (.aload_n 0, 1) := by decide +kernel
theorem dX0_takeNearest_40 : decode cX0_takeNearest 40 = .ok (.getfield 15, 3) := by decide +kernel
theorem dX0_takeNearest_43 : decode cX0_takeNearest 43 = .ok (.aload_n 0, 1) := by decide +kernel
theorem dX0_takeNearest_44 : decode cX0_takeNearest 44 = .ok (.getfield 22, 3) := by decide +kernel
theorem dX0_takeNearest_47 : decode cX0_takeNearest 47 = .ok (.iaload, 1) := by decide +kernel
theorem dX0_takeNearest_48 : decode cX0_takeNearest 48 = .ok (.invokevirtual 36, 3) := by decide +kernel
theorem dX0_takeNearest_51 : decode cX0_takeNearest 51 = .ok (.iload_n 1, 1) := by decide +kernel
theorem dX0_takeNearest_52 : decode cX0_takeNearest 52 = .ok (.ireturn, 1) := by decide +kernel
set_option maxRecDepth 20000 in
theorem ggX0_sinkFromTop_X0_seatAt : GoodIn wsX0_sinkFromTop wsX0_seatAt := goodIn_r _ [8, 3, 9, 10, 11, 12, 13] (by decide +kernel) (by decide +kernel)
set_option maxRecDepth 20000 in
theorem gX0_sinkFromTop_X0_seatAt : GoodIn wsX0_sinkFromTop (wsV RX0 32 RX0 yX0_seatAt wsX0_seatAt) := goodIn_app (goodIn_of _ (by decide +kernel)) ggX0_sinkFromTop_X0_seatAt
theorem dX0_sinkFromTop_0 : decode cX0_sinkFromTop 0 = .ok (.iconst 0, 1) := by decide +kernel
theorem dX0_sinkFromTop_1 : decode cX0_sinkFromTop 1 = .ok (.istore_n 2, 1) := by decide +kernel
theorem dX0_sinkFromTop_2 : decode cX0_sinkFromTop 2 = .ok (.iconst 0, 1) := by decide +kernel
theorem dX0_sinkFromTop_3 : decode cX0_sinkFromTop 3 = .ok (.istore_n 3, 1) := by decide +kernel
theorem dX0_sinkFromTop_4 : decode cX0_sinkFromTop 4 = .ok (.iload_n 3, 1) := by decide +kernel
theorem dX0_sinkFromTop_5 : decode cX0_sinkFromTop 5 = .ok (.bipush 32, 2) := by decide +kernel
theorem dX0_sinkFromTop_7 : decode cX0_sinkFromTop 7 = .ok (.if_icmp .ge 112, 3) := by decide +kernel
theorem dX0_sinkFromTop_10 : decode cX0_sinkFromTop 10 = .ok (.iconst 2, 1) := by decide +kernel
theorem dX0_sinkFromTop_11 : decode cX0_sinkFromTop 11 = .ok (.iload_n 2, 1) := by decide +kernel
theorem dX0_sinkFromTop_12 : decode cX0_sinkFromTop 12 = .ok (.imul, 1) := by decide +kernel
theorem dX0_sinkFromTop_13 : decode cX0_sinkFromTop 13 = .ok (.iconst 1, 1) := by decide +kernel
theorem dX0_sinkFromTop_14 : decode cX0_sinkFromTop 14 = .ok (.iadd, 1) := by decide +kernel
theorem dX0_sinkFromTop_15 : decode cX0_sinkFromTop 15 = .ok (.aload_n 0, 1) := by decide +kernel
theorem dX0_sinkFromTop_16 : decode cX0_sinkFromTop 16 = .ok (.getfield 22, 3) := by decide +kernel
theorem dX0_sinkFromTop_19 : decode cX0_sinkFromTop 19 = .ok (.if_icmp .ge 100, 3) := by decide +kernel
theorem dX0_sinkFromTop_22 : decode cX0_sinkFromTop 22 = .ok (.iconst 2, 1) := by decide +kernel
theorem dX0_sinkFromTop_23 : decode cX0_sinkFromTop 23 = .ok (.iload_n 2, 1) := by decide +kernel
theorem dX0_sinkFromTop_24 : decode cX0_sinkFromTop 24 = .ok (.imul, 1) := by decide +kernel
theorem dX0_sinkFromTop_25 : decode cX0_sinkFromTop 25 = .ok (.iconst 1, 1) := by decide +kernel
theorem dX0_sinkFromTop_26 : decode cX0_sinkFromTop 26 = .ok (.iadd, 1) := by decide +kernel
theorem dX0_sinkFromTop_27 : decode cX0_sinkFromTop 27 = .ok (.istore 4, 2) := by decide +kernel
theorem dX0_sinkFromTop_29 : decode cX0_sinkFromTop 29 = .ok (.iload 4, 2) := by decide +kernel
theorem dX0_sinkFromTop_31 : decode cX0_sinkFromTop 31 = .ok (.iconst 1, 1) := by decide +kernel
theorem dX0_sinkFromTop_32 : decode cX0_sinkFromTop 32 = .ok (.iadd, 1) := by decide +kernel
theorem dX0_sinkFromTop_33 : decode cX0_sinkFromTop 33 = .ok (.aload_n 0, 1) := by decide +kernel
theorem dX0_sinkFromTop_34 : decode cX0_sinkFromTop 34 = .ok (.getfield 22, 3) := by decide +kernel
theorem dX0_sinkFromTop_37 : decode cX0_sinkFromTop 37 = .ok (.if_icmp .ge 36, 3) := by decide +kernel
theorem dX0_sinkFromTop_40 : decode cX0_sinkFromTop 40 = .ok (.aload_n 0, 1) := by decide +kernel
theorem dX0_sinkFromTop_41 : decode cX0_sinkFromTop 41 = .ok (.getfield 9, 3) := by decide +kernel
theorem dX0_sinkFromTop_44 : decode cX0_sinkFromTop 44 = .ok (.aload_n 0, 1) := by decide +kernel
theorem dX0_sinkFromTop_45 : decode cX0_sinkFromTop 45 = .ok (.getfield 15, 3) := by decide +kernel
theorem dX0_sinkFromTop_48 : decode cX0_sinkFromTop 48 = .ok (.iload 4, 2) := by decide +kernel
theorem dX0_sinkFromTop_50 : decode cX0_sinkFromTop 50 = .ok (.iconst 1, 1) := by decide +kernel
theorem dX0_sinkFromTop_51 : decode cX0_sinkFromTop 51 = .ok (.iadd, 1) := by decide +kernel
theorem dX0_sinkFromTop_52 : decode cX0_sinkFromTop 52 = .ok (.iaload, 1) := by decide +kernel
theorem dX0_sinkFromTop_53 : decode cX0_sinkFromTop 53 = .ok (.laload, 1) := by decide +kernel
theorem dX0_sinkFromTop_54 : decode cX0_sinkFromTop 54 = .ok (.aload_n 0, 1) := by decide +kernel
theorem dX0_sinkFromTop_55 : decode cX0_sinkFromTop 55 = .ok (.getfield 9, 3) := by decide +kernel
theorem dX0_sinkFromTop_58 : decode cX0_sinkFromTop 58 = .ok (.aload_n 0, 1) := by decide +kernel
theorem dX0_sinkFromTop_59 : decode cX0_sinkFromTop 59 = .ok (.getfield 15, 3) := by decide +kernel
theorem dX0_sinkFromTop_62 : decode cX0_sinkFromTop 62 = .ok (.iload 4, 2) := by decide +kernel
theorem dX0_sinkFromTop_64 : decode cX0_sinkFromTop 64 = .ok (.iaload, 1) := by decide +kernel
theorem dX0_sinkFromTop_65 : decode cX0_sinkFromTop 65 = .ok (.laload, 1) := by decide +kernel
theorem dX0_sinkFromTop_66 : decode cX0_sinkFromTop 66 = .ok (.lcmp, 1) := by decide +kernel
theorem dX0_sinkFromTop_67 : decode cX0_sinkFromTop 67 = .ok (.ifCond .ge 6, 3) := by decide +kernel
theorem dX0_sinkFromTop_70 : decode cX0_sinkFromTop 70 = .ok (.iinc 4 1, 3) := by decide +kernel
theorem dX0_sinkFromTop_73 : decode cX0_sinkFromTop 73 = .ok (.aload_n 0, 1) := by decide +kernel
theorem dX0_sinkFromTop_74 : decode cX0_sinkFromTop 74 = .ok (.getfield 9, 3) := by decide +kernel
theorem dX0_sinkFromTop_77 : decode cX0_sinkFromTop 77 = .ok (.iload_n 1, 1) := by decide +kernel
theorem dX0_sinkFromTop_78 : decode cX0_sinkFromTop 78 = .ok (.laload, 1) := by decide +kernel
theorem dX0_sinkFromTop_79 : decode cX0_sinkFromTop 79 = .ok (.aload_n 0, 1) := by decide +kernel
theorem dX0_sinkFromTop_80 : decode cX0_sinkFromTop 80 = .ok (.getfield 9, 3) := by decide +kernel
theorem dX0_sinkFromTop_83 : decode cX0_sinkFromTop 83 = .ok (.aload_n 0, 1) := by decide +kernel
theorem dX0_sinkFromTop_84 : decode cX0_sinkFromTop 84 = .ok (.getfield 15, 3) := by decide +kernel
theorem dX0_sinkFromTop_87 : decode cX0_sinkFromTop 87 = .ok (.iload 4, 2) := by decide +kernel
theorem dX0_sinkFromTop_89 : decode cX0_sinkFromTop 89 = .ok (.iaload, 1) := by decide +kernel
theorem dX0_sinkFromTop_90 : decode cX0_sinkFromTop 90 = .ok (.laload, 1) := by decide +kernel
theorem dX0_sinkFromTop_91 : decode cX0_sinkFromTop 91 = .ok (.lcmp, 1) := by decide +kernel
theorem dX0_sinkFromTop_92 : decode cX0_sinkFromTop 92 = .ok (.ifCond .gt 6, 3) := by decide +kernel
theorem dX0_sinkFromTop_95 : decode cX0_sinkFromTop 95 = .ok (.goto 24, 3) := by decide +kernel
theorem dX0_sinkFromTop_98 : decode cX0_sinkFromTop 98 = .ok (.aload_n 0, 1) := by decide +kernel
theorem dX0_sinkFromTop_99 : decode cX0_sinkFromTop 99 = .ok (.iload_n 2, 1) := by decide +kernel
theorem dX0_sinkFromTop_100 : decode cX0_sinkFromTop 100 = .ok (.aload_n 0, 1) := by decide +kernel
theorem dX0_sinkFromTop_101 : decode cX0_sinkFromTop 101 = .ok (.getfield 15, 3) := by decide +kernel
theorem dX0_sinkFromTop_104 : decode cX0_sinkFromTop 104 = .ok (.iload 4, 2) := by decide +kernel
theorem dX0_sinkFromTop_106 : decode cX0_sinkFromTop 106 = .ok (.iaload, 1) := by decide +kernel
theorem dX0_sinkFromTop_107 : decode cX0_sinkFromTop 107 = .ok (.invokevirtual 32, 3) := by decide +kernel
theorem dX0_sinkFromTop_110 : decode cX0_sinkFromTop 110 = .ok (.iload 4, 2) := by decide +kernel
theorem dX0_sinkFromTop_112 : decode cX0_sinkFromTop 112 = .ok (.istore_n 2, 1) := by decide +kernel
theorem dX0_sinkFromTop_113 : decode cX0_sinkFromTop 113 = .ok (.iinc 3 1, 3) := by decide +kernel
theorem dX0_sinkFromTop_116 : decode cX0_sinkFromTop 116 = .ok (.goto (-112), 3) := by decide +kernel
theorem dX0_sinkFromTop_119 : decode cX0_sinkFromTop 119 = .ok (.aload_n 0, 1) := by decide +kernel
theorem dX0_sinkFromTop_120 : decode cX0_sinkFromTop 120 = .ok (.iload_n 2, 1) := by decide +kernel
theorem dX0_sinkFromTop_121 : decode cX0_sinkFromTop 121 = .ok (.iload_n 1, 1) := by decide +kernel
theorem dX0_sinkFromTop_122 : decode cX0_sinkFromTop 122 = .ok (.invokevirtual 32, 3) := by decide +kernel
theorem dX0_sinkFromTop_125 : decode cX0_sinkFromTop 125 = .ok (.return_, 1) := by decide +kernel
theorem dX0_seatAt_0 : decode cX0_seatAt 0 = .ok (.aload_n 0, 1) := by decide +kernel
theorem dX0_seatAt_1 : decode cX0_seatAt 1 = .ok (.getfield 15, 3) := by decide +kernel
theorem dX0_seatAt_4 : decode cX0_seatAt 4 = .ok (.iload_n 1, 1) := by decide +kernel
theorem dX0_seatAt_5 : decode cX0_seatAt 5 = .ok (.iload_n 2, 1) := by decide +kernel
theorem dX0_seatAt_6 : decode cX0_seatAt 6 = .ok (.iastore, 1) := by decide +kernel
theorem dX0_seatAt_7 : decode cX0_seatAt 7 = .ok (.aload_n 0, 1) := by decide +kernel
theorem dX0_seatAt_8 : decode cX0_seatAt 8 = .ok (.getfield 19, 3) := by decide +kernel
theorem dX0_seatAt_11 : decode cX0_seatAt 11 = .ok (.iload_n 2, 1) := by decide +kernel
theorem dX0_seatAt_12 : decode cX0_seatAt 12 = .ok (.iload_n 1, 1) := by decide +kernel
theorem dX0_seatAt_13 : decode cX0_seatAt 13 = .ok (.iastore, 1) := by decide +kernel
theorem dX0_seatAt_14 : decode cX0_seatAt 14 = .ok (.return_, 1) := by decide +kernel
set_option maxRecDepth 20000 in
theorem ggX1_init_J7_fill_53178 : GoodIn wsX1_init wsJ7_fill_53178 := goodIn_r _ [27] (by decide +kernel) (by decide +kernel)
set_option maxRecDepth 20000 in
theorem gX1_init_J7_fill_53178 : GoodIn wsX1_init (va_wsS RX1 54 yJ7_fill_53178 wsJ7_fill_53178) := goodIn_app (goodIn_of _ (by decide +kernel)) ggX1_init_J7_fill_53178
theorem dX1_init_0 : decode cX1_init 0 = .ok (.aload_n 0, 1) := by decide +kernel
theorem dX1_init_1 : decode cX1_init 1 = .ok (.invokespecial 3, 3) := by decide +kernel
theorem dX1_init_4 : decode cX1_init 4 = .ok (.aload_n 0, 1) := by decide +kernel
theorem dX1_init_5 : decode cX1_init 5 = .ok (.iconst 1, 1) := by decide +kernel
theorem dX1_init_6 : decode cX1_init 6 = .ok (.iload_n 1, 1) := by decide +kernel
theorem dX1_init_7 : decode cX1_init 7 = .ok (.bipush 16, 2) := by decide +kernel
theorem dX1_init_9 : decode cX1_init 9 = .ok (.invokestatic 11, 3) := by decide +kernel
theorem dX1_init_12 : decode cX1_init 12 = .ok (.invokestatic 17, 3) := by decide +kernel
theorem dX1_init_15 : decode cX1_init 15 = .ok (.putfield 20, 3) := by decide +kernel
theorem dX1_init_18 : decode cX1_init 18 = .ok (.aload_n 0, 1) := by decide +kernel
theorem dX1_init_19 : decode cX1_init 19 = .ok (.iconst 1, 1) := by decide +kernel
theorem dX1_init_20 : decode cX1_init 20 = .ok (.iload_n 2, 1) := by decide +kernel
theorem dX1_init_21 : decode cX1_init 21 = .ok (.bipush 16, 2) := by decide +kernel
theorem dX1_init_23 : decode cX1_init 23 = .ok (.invokestatic 11, 3) := by decide +kernel
theorem dX1_init_26 : decode cX1_init 26 = .ok (.invokestatic 17, 3) := by decide +kernel
theorem dX1_init_29 : decode cX1_init 29 = .ok (.putfield 24, 3) := by decide +kernel
theorem dX1_init_32 : decode cX1_init 32 = .ok (.aload_n 0, 1) := by decide +kernel
theorem dX1_init_33 : decode cX1_init 33 = .ok (.iconst 1, 1) := by decide +kernel
theorem dX1_init_34 : decode cX1_init 34 = .ok (.iload_n 3, 1) := by decide +kernel
theorem dX1_init_35 : decode cX1_init 35 = .ok (.iconst 4, 1) := by decide +kernel
theorem dX1_init_36 : decode cX1_init 36 = .ok (.invokestatic 11, 3) := by decide +kernel
theorem dX1_init_39 : decode cX1_init 39 = .ok (.invokestatic 17, 3) := by decide +kernel
theorem dX1_init_42 : decode cX1_init 42 = .ok (.putfield 27, 3) := by decide +kernel
theorem dX1_init_45 : decode cX1_init 45 = .ok (.aload_n 0, 1) := by decide +kernel
theorem dX1_init_46 : decode cX1_init 46 = .ok (.aload_n 0, 1) := by decide +kernel
theorem dX1_init_47 : decode cX1_init 47 = .ok (.getfield 20, 3) := by decide +kernel
theorem dX1_init_50 : decode cX1_init 50 = .ok (.aload_n 0, 1) := by decide +kernel
theorem dX1_init_51 : decode cX1_init 51 = .ok (.getfield 24, 3) := by decide +kernel
theorem dX1_init_54 : decode cX1_init 54 = .ok (.imul, 1) := by decide +kernel
theorem dX1_init_55 : decode cX1_init 55 = .ok (.putfield 30, 3) := by decide +kernel
theorem dX1_init_58 : decode cX1_init 58 = .ok (.aload_n 0, 1) := by decide +kernel
theorem dX1_init_59 : decode cX1_init 59 = .ok (.aload_n 0, 1) := by decide +kernel
theorem dX1_init_60 : decode cX1_init 60 = .ok (.getfield 30, 3) := by decide +kernel
theorem dX1_init_63 : decode cX1_init 63 = .ok (.aload_n 0, 1) := by decide +kernel
theorem dX1_init_64 : decode cX1_init 64 = .ok (.getfield 27, 3) := by decide +kernel
theorem dX1_init_67 : decode cX1_init 67 = .ok (.imul, 1) := by decide +kernel
theorem dX1_init_68 : decode cX1_init 68 = .ok (.putfield 33, 3) := by decide +kernel
theorem dX1_init_71 : decode cX1_init 71 = .ok (.aload_n 0, 1) := by decide +kernel
theorem dX1_init_72 : decode cX1_init 72 = .ok (.aload_n 0, 1) := by decide +kernel
theorem dX1_init_73 : decode cX1_init 73 = .ok (.getfield 33, 3) := by decide +kernel
theorem dX1_init_76 : decode cX1_init 76 = .ok (.newarray .boolean, 2) := by decide +kernel
theorem dX1_init_78 : decode cX1_init 78 = .ok (.putfield 36, 3) := by decide +kernel
theorem dX1_init_81 : decode cX1_init 81 = .ok (.aload_n 0, 1) := by decide +kernel
theorem dX1_init_82 : decode cX1_init 82 = .ok (.aload_n 0, 1) := by decide +kernel
theorem dX1_init_83 : decode cX1_init 83 = .ok (.getfield 33, 3) := by decide +kernel
theorem dX1_init_86 : decode cX1_init 86 = .ok (.newarray .boolean, 2) := by decide +kernel
theorem dX1_init_88 : decode cX1_init 88 = .ok (.putfield 40, 3) := by decide +kernel
theorem dX1_init_91 : decode cX1_init 91 = .ok (.aload_n 0, 1) := by decide +kernel
theorem dX1_init_92 : decode cX1_init 92 = .ok (.aload_n 0, 1) := by decide +kernel
theorem dX1_init_93 : decode cX1_init 93 = .ok (.getfield 33, 3) := by decide +kernel
theorem dX1_init_96 : decode cX1_init 96 = .ok (.newarray .int, 2) := by decide +kernel
theorem dX1_init_98 : decode cX1_init 98 = .ok (.putfield 43, 3) := by decide +kernel
theorem dX1_init_101 : decode cX1_init 101 = .ok (.aload_n 0, 1) := by decide +kernel
theorem dX1_init_102 : decode cX1_init 102 = .ok (.aload_n 0, 1) := by decide +kernel
theorem dX1_init_103 : decode cX1_init 103 = .ok (.getfield 33, 3) := by decide +kernel
theorem dX1_init_106 : decode cX1_init 106 = .ok (.newarray .int, 2) := by decide +kernel
theorem dX1_init_108 : decode cX1_init 108 = .ok (.putfield 47, 3) := by decide +kernel
theorem dX1_init_111 : decode cX1_init 111 = .ok (.aload_n 0, 1) := by decide +kernel
theorem dX1_init_112 : decode cX1_init 112 = .ok (.aload_n 0, 1) := by decide +kernel
theorem dX1_init_113 : decode cX1_init 113 = .ok (.getfield 33, 3) := by decide +kernel
theorem dX1_init_116 : decode cX1_init 116 = .ok (.newarray .long, 2) := by decide +kernel
theorem dX1_init_118 : decode cX1_init 118 = .ok (.putfield 50, 3) := by decide +kernel
theorem dX1_init_121 : decode cX1_init 121 = .ok (.aload_n 0, 1) := by decide +kernel
theorem dX1_init_122 : decode cX1_init 122 = .ok (.getfield 43, 3) := by decide +kernel
theorem dX1_init_125 : decode cX1_init 125 = .ok (.iconst (-1), 1) := by decide +kernel
theorem dX1_init_126 : decode cX1_init 126 = .ok (.invokestatic 54, 3) := by decide +kernel
theorem dX1_init_129 : decode cX1_init 129 = .ok (.return_, 1) := by decide +kernel
theorem dX1_has_0 : decode cX1_has 0 = .ok (.iload_n 1, 1) := by decide +kernel
theorem dX1_has_1 : decode cX1_has 1 = .ok (.ifCond .lt 39, 3) := by decide +kernel
theorem dX1_has_4 : decode cX1_has 4 = .ok (.iload_n 1, 1) := by decide +kernel
theorem dX1_has_5 : decode cX1_has 5 = .ok (.aload_n 0, 1) := by decide +kernel
theorem dX1_has_6 : decode cX1_has 6 = .ok (.getfield 27, 3) := by decide +kernel
theorem dX1_has_9 : decode cX1_has 9 = .ok (.if_icmp .ge 31, 3) := by decide +kernel
theorem dX1_has_12 : decode cX1_has 12 = .ok (.iload_n 2, 1) := by decide +kernel
theorem dX1_has_13 : decode cX1_has 13 = .ok (.ifCond .lt 27, 3) := by decide +kernel
theorem dX1_has_16 : decode cX1_has 16 = .ok (.iload_n 2, 1) := by decide +kernel
theorem dX1_has_17 : decode cX1_has 17 = .ok (.aload_n 0, 1) := by decide +kernel
theorem dX1_has_18 : decode cX1_has 18 = .ok (.getfield 20, 3) := by decide +kernel
theorem dX1_has_21 : decode cX1_has 21 = .ok (.if_icmp .ge 19, 3) := by decide +kernel
theorem dX1_has_24 : decode cX1_has 24 = .ok (.iload_n 3, 1) := by decide +kernel
theorem dX1_has_25 : decode cX1_has 25 = .ok (.ifCond .lt 15, 3) := by decide +kernel
theorem dX1_has_28 : decode cX1_has 28 = .ok (.iload_n 3, 1) := by decide +kernel
theorem dX1_has_29 : decode cX1_has 29 = .ok (.aload_n 0, 1) := by decide +kernel
theorem dX1_has_30 : decode cX1_has 30 = .ok (.getfield 24, 3) := by decide +kernel
theorem dX1_has_33 : decode cX1_has 33 = .ok (.if_icmp .ge 7, 3) := by decide +kernel
theorem dX1_has_36 : decode cX1_has 36 = .ok (.iconst 1, 1) := by decide +kernel
theorem dX1_has_37 : decode cX1_has 37 = .ok (.goto 4, 3) := by decide +kernel
theorem dX1_has_40 : decode cX1_has 40 = .ok (.iconst 0, 1) := by decide +kernel
theorem dX1_has_41 : decode cX1_has 41 = .ok (.ireturn, 1) := by decide +kernel
theorem dX1_numberOf_0 : decode cX1_numberOf 0 = .ok (.iload_n 1, 1) := by decide +kernel
theorem dX1_numberOf_1 : decode cX1_numberOf 1 = .ok (.aload_n 0, 1) := by decide +kernel
theorem dX1_numberOf_2 : decode cX1_numberOf 2 = .ok (.getfield 24, 3) := by decide +kernel
theorem dX1_numberOf_5 : decode cX1_numberOf 5 = .ok (.imul, 1) := by decide +kernel
theorem dX1_numberOf_6 : decode cX1_numberOf 6 = .ok (.iload_n 3, 1) := by decide +kernel
theorem dX1_numberOf_7 : decode cX1_numberOf 7 = .ok (.iadd, 1) := by decide +kernel
theorem dX1_numberOf_8 : decode cX1_numberOf 8 = .ok (.aload_n 0, 1) := by decide +kernel
theorem dX1_numberOf_9 : decode cX1_numberOf 9 = .ok (.getfield 20, 3) := by decide +kernel
theorem dX1_numberOf_12 : decode cX1_numberOf 12 = .ok (.imul, 1) := by decide +kernel
theorem dX1_numberOf_13 : decode cX1_numberOf 13 = .ok (.iload_n 2, 1) := by decide +kernel
theorem dX1_numberOf_14 : decode cX1_numberOf 14 = .ok (.iadd, 1) := by decide +kernel
theorem dX1_numberOf_15 : decode cX1_numberOf 15 = .ok (.ireturn, 1) := by decide +kernel
theorem dX1_layerOf_0 : decode cX1_layerOf 0 = .ok (.iload_n 1, 1) := by decide +kernel
theorem dX1_layerOf_1 : decode cX1_layerOf 1 = .ok (.aload_n 0, 1) := by decide +kernel
theorem dX1_layerOf_2 : decode cX1_layerOf 2 = .ok (.getfield 30, 3) := by decide +kernel
theorem dX1_layerOf_5 : decode cX1_layerOf 5 = .ok (.idiv, 1) := by decide +kernel
theorem dX1_layerOf_6 : decode cX1_layerOf 6 = .ok (.ireturn, 1) := by decide +kernel
theorem dX1_rowOf_0 : decode cX1_rowOf 0 = .ok (.iload_n 1, 1) := by decide +kernel
theorem dX1_rowOf_1 : decode cX1_rowOf 1 = .ok (.aload_n 0, 1) := by decide +kernel
theorem dX1_rowOf_2 : decode cX1_rowOf 2 = .ok (.getfield 20, 3) := by decide +kernel
theorem dX1_rowOf_5 : decode cX1_rowOf 5 = .ok (.idiv, 1) := by decide +kernel
theorem dX1_rowOf_6 : decode cX1_rowOf 6 = .ok (.aload_n 0, 1) := by decide +kernel
theorem dX1_rowOf_7 : decode cX1_rowOf 7 = .ok (.getfield 24, 3) := by decide +kernel
theorem dX1_rowOf_10 : decode cX1_rowOf 10 = .ok (.irem, 1) := by decide +kernel
theorem dX1_rowOf_11 : decode cX1_rowOf 11 = .ok (.ireturn, 1) := by decide +kernel
theorem dX1_columnOf_0 : decode cX1_columnOf 0 = .ok (.iload_n 1, 1) := by decide +kernel
theorem dX1_columnOf_1 : decode cX1_columnOf 1 = .ok (.aload_n 0, 1) := by decide +kernel
theorem dX1_columnOf_2 : decode cX1_columnOf 2 = .ok (.getfield 20, 3) := by decide +kernel
theorem dX1_columnOf_5 : decode cX1_columnOf 5 = .ok (.irem, 1) := by decide +kernel
theorem dX1_columnOf_6 : decode cX1_columnOf 6 = .ok (.ireturn, 1) := by decide +kernel
theorem dX1_neighbour_0 : decode cX1_neighbour 0 = .ok (.iload_n 2, 1) := by decide +kernel
theorem dX1_neighbour_1 : decode cX1_neighbour 1 = .ok (.tableswitch 175 0 5 #[39, 58, 82, 99, 122, 151], 39) := by decide +kernel
theorem dX1_neighbour_40 : decode cX1_neighbour 40 = .ok (.iload_n 1, 1) := by decide +kernel
theorem dX1_neighbour_41 : decode cX1_neighbour 41 = .ok (.aload_n 0, 1) := by decide +kernel
theorem dX1_neighbour_42 : decode cX1_neighbour 42 = .ok (.getfield 30, 3) := by decide +kernel
theorem dX1_neighbour_45 : decode cX1_neighbour 45 = .ok (.if_icmp .lt 12, 3) := by decide +kernel
theorem dX1_neighbour_48 : decode cX1_neighbour 48 = .ok (.iload_n 1, 1) := by decide +kernel
theorem dX1_neighbour_49 : decode cX1_neighbour 49 = .ok (.aload_n 0, 1) := by decide +kernel
theorem dX1_neighbour_50 : decode cX1_neighbour 50 = .ok (.getfield 30, 3) := by decide +kernel
theorem dX1_neighbour_53 : decode cX1_neighbour 53 = .ok (.isub, 1) := by decide +kernel
theorem dX1_neighbour_54 : decode cX1_neighbour 54 = .ok (.goto 4, 3) := by decide +kernel
theorem dX1_neighbour_57 : decode cX1_neighbour 57 = .ok (.iconst (-1), 1) := by decide +kernel
theorem dX1_neighbour_58 : decode cX1_neighbour 58 = .ok (.ireturn, 1) := by decide +kernel
theorem dX1_neighbour_59 : decode cX1_neighbour 59 = .ok (.iload_n 1, 1) := by decide +kernel
theorem dX1_neighbour_60 : decode cX1_neighbour 60 = .ok (.aload_n 0, 1) := by decide +kernel
theorem dX1_neighbour_61 : decode cX1_neighbour 61 = .ok (.getfield 30, 3) := by decide +kernel
theorem dX1_neighbour_64 : decode cX1_neighbour 64 = .ok (.irem, 1) := by decide +kernel
theorem dX1_neighbour_65 : decode cX1_neighbour 65 = .ok (.aload_n 0, 1) := by decide +kernel
theorem dX1_neighbour_66 : decode cX1_neighbour 66 = .ok (.getfield 20, 3) := by decide +kernel
theorem dX1_neighbour_69 : decode cX1_neighbour 69 = .ok (.if_icmp .lt 12, 3) := by decide +kernel
theorem dX1_neighbour_72 : decode cX1_neighbour 72 = .ok (.iload_n 1, 1) := by decide +kernel
theorem dX1_neighbour_73 : decode cX1_neighbour 73 = .ok (.aload_n 0, 1) := by decide +kernel
theorem dX1_neighbour_74 : decode cX1_neighbour 74 = .ok (.getfield 20, 3) := by decide +kernel
theorem dX1_neighbour_77 : decode cX1_neighbour 77 = .ok (.isub, 1) := by decide +kernel
theorem dX1_neighbour_78 : decode cX1_neighbour 78 = .ok (.goto 4, 3) := by decide +kernel
theorem dX1_neighbour_81 : decode cX1_neighbour 81 = .ok (.iconst (-1), 1) := by decide +kernel
theorem dX1_neighbour_82 : decode cX1_neighbour 82 = .ok (.ireturn, 1) := by decide +kernel
theorem dX1_neighbour_83 : decode cX1_neighbour 83 = .ok (.iload_n 1, 1) := by decide +kernel
theorem dX1_neighbour_84 : decode cX1_neighbour 84 = .ok (.aload_n 0, 1) := by decide +kernel
theorem dX1_neighbour_85 : decode cX1_neighbour 85 = .ok (.getfield 20, 3) := by decide +kernel
theorem dX1_neighbour_88 : decode cX1_neighbour 88 = .ok (.irem, 1) := by decide +kernel
theorem dX1_neighbour_89 : decode cX1_neighbour 89 = .ok (.ifCond .le 9, 3) := by decide +kernel
theorem dX1_neighbour_92 : decode cX1_neighbour 92 = .ok (.iload_n 1, 1) := by decide +kernel
theorem dX1_neighbour_93 : decode cX1_neighbour 93 = .ok (.iconst 1, 1) := by decide +kernel
theorem dX1_neighbour_94 : decode cX1_neighbour 94 = .ok (.isub, 1) := by decide +kernel
theorem dX1_neighbour_95 : decode cX1_neighbour 95 = .ok (.goto 4, 3) := by decide +kernel
theorem dX1_neighbour_98 : decode cX1_neighbour 98 = .ok (.iconst (-1), 1) := by decide +kernel
theorem dX1_neighbour_99 : decode cX1_neighbour 99 = .ok (.ireturn, 1) := by decide +kernel
theorem dX1_neighbour_100 : decode cX1_neighbour 100 = .ok (.iload_n 1, 1) := by decide +kernel
theorem dX1_neighbour_101 : decode cX1_neighbour 101 = .ok (.aload_n 0, 1) := by decide +kernel
theorem dX1_neighbour_102 : decode cX1_neighbour 102 = .ok (.getfield 20, 3) := by decide +kernel
theorem dX1_neighbour_105 : decode cX1_neighbour 105 = .ok (.irem, 1) := by decide +kernel
theorem dX1_neighbour_106 : decode cX1_neighbour 106 = .ok (.aload_n 0, 1) := by decide +kernel
theorem dX1_neighbour_107 : decode cX1_neighbour 107 = .ok (.getfield 20, 3) := by decide +kernel
theorem dX1_neighbour_110 : decode cX1_neighbour 110 = .ok (.iconst 1, 1) := by decide +kernel
theorem dX1_neighbour_111 : decode cX1_neighbour 111 = .ok (.isub, 1) := by decide +kernel
theorem dX1_neighbour_112 : decode cX1_neighbour 112 = .ok (.if_icmp .ge 9, 3) := by decide +kernel
theorem dX1_neighbour_115 : decode cX1_neighbour 115 = .ok (.iload_n 1, 1) := by decide +kernel
theorem dX1_neighbour_116 : decode cX1_neighbour 116 = .ok (.iconst 1, 1) := by decide +kernel
theorem dX1_neighbour_117 : decode cX1_neighbour 117 = .ok (.iadd, 1) := by decide +kernel
theorem dX1_neighbour_118 : decode cX1_neighbour 118 = .ok (.goto 4, 3) := by decide +kernel
theorem dX1_neighbour_121 : decode cX1_neighbour 121 = .ok (.iconst (-1), 1) := by decide +kernel
theorem dX1_neighbour_122 : decode cX1_neighbour 122 = .ok (.ireturn, 1) := by decide +kernel
theorem dX1_neighbour_123 : decode cX1_neighbour 123 = .ok (.iload_n 1, 1) := by decide +kernel
theorem dX1_neighbour_124 : decode cX1_neighbour 124 = .ok (.aload_n 0, 1) := by decide +kernel
theorem dX1_neighbour_125 : decode cX1_neighbour 125 = .ok (.getfield 30, 3) := by decide +kernel
theorem dX1_neighbour_128 : decode cX1_neighbour 128 = .ok (.irem, 1) := by decide +kernel
theorem dX1_neighbour_129 : decode cX1_neighbour 129 = .ok (.aload_n 0, 1) := by decide +kernel
theorem dX1_neighbour_130 : decode cX1_neighbour 130 = .ok (.getfield 30, 3) := by decide +kernel
theorem dX1_neighbour_133 : decode cX1_neighbour 133 = .ok (.aload_n 0, 1) := by decide +kernel
theorem dX1_neighbour_134 : decode cX1_neighbour 134 = .ok (.getfield 20, 3) := by decide +kernel
theorem dX1_neighbour_137 : decode cX1_neighbour 137 = .ok (.isub, 1) := by decide +kernel
theorem dX1_neighbour_138 : decode cX1_neighbour 138 = .ok (.if_icmp .ge 12, 3) := by decide +kernel
theorem dX1_neighbour_141 : decode cX1_neighbour 141 = .ok (.iload_n 1, 1) := by decide +kernel
theorem dX1_neighbour_142 : decode cX1_neighbour 142 = .ok (.aload_n 0, 1) := by decide +kernel
theorem dX1_neighbour_143 : decode cX1_neighbour 143 = .ok (.getfield 20, 3) := by decide +kernel
theorem dX1_neighbour_146 : decode cX1_neighbour 146 = .ok (.iadd, 1) := by decide +kernel
theorem dX1_neighbour_147 : decode cX1_neighbour 147 = .ok (.goto 4, 3) := by decide +kernel
theorem dX1_neighbour_150 : decode cX1_neighbour 150 = .ok (.iconst (-1), 1) := by decide +kernel
theorem dX1_neighbour_151 : decode cX1_neighbour 151 = .ok (.ireturn, 1) := by decide +kernel
theorem dX1_neighbour_152 : decode cX1_neighbour 152 = .ok (.iload_n 1, 1) := by decide +kernel
theorem dX1_neighbour_153 : decode cX1_neighbour 153 = .ok (.aload_n 0, 1) := by decide +kernel
theorem dX1_neighbour_154 : decode cX1_neighbour 154 = .ok (.getfield 33, 3) := by decide +kernel
theorem dX1_neighbour_157 : decode cX1_neighbour 157 = .ok (.aload_n 0, 1) := by decide +kernel
theorem dX1_neighbour_158 : decode cX1_neighbour 158 = .ok (.getfield 30, 3) := by decide +kernel
theorem dX1_neighbour_161 : decode cX1_neighbour 161 = .ok (.isub, 1) := by decide +kernel
theorem dX1_neighbour_162 : decode cX1_neighbour 162 = .ok (.if_icmp .ge 12, 3) := by decide +kernel
theorem dX1_neighbour_165 : decode cX1_neighbour 165 = .ok (.iload_n 1, 1) := by decide +kernel
theorem dX1_neighbour_166 : decode cX1_neighbour 166 = .ok (.aload_n 0, 1) := by decide +kernel
theorem dX1_neighbour_167 : decode cX1_neighbour 167 = .ok (.getfield 30, 3) := by decide +kernel
theorem dX1_neighbour_170 : decode cX1_neighbour 170 = .ok (.iadd, 1) := by decide +kernel
theorem dX1_neighbour_171 : decode cX1_neighbour 171 = .ok (.goto 4, 3) := by decide +kernel
theorem dX1_neighbour_174 : decode cX1_neighbour 174 = .ok (.iconst (-1), 1) := by decide +kernel
theorem dX1_neighbour_175 : decode cX1_neighbour 175 = .ok (.ireturn, 1) := by decide +kernel
theorem dX1_neighbour_176 : decode cX1_neighbour 176 = .ok (.iconst (-1), 1) := by decide +kernel
theorem dX1_neighbour_177 : decode cX1_neighbour 177 = .ok (.ireturn, 1) := by decide +kernel
theorem dX1_heldByOther_0 : decode cX1_heldByOther 0 = .ok (.aload_n 0, 1) := by decide +kernel
theorem dX1_heldByOther_1 : decode cX1_heldByOther 1 = .ok (.getfield 43, 3) := by decide +kernel
theorem dX1_heldByOther_4 : decode cX1_heldByOther 4 = .ok (.iload_n 1, 1) := by decide +kernel
theorem dX1_heldByOther_5 : decode cX1_heldByOther 5 = .ok (.iaload, 1) := by decide +kernel
theorem dX1_heldByOther_6 : decode cX1_heldByOther 6 = .ok (.iconst (-1), 1) := by decide +kernel
theorem dX1_heldByOther_7 : decode cX1_heldByOther 7 = .ok (.if_icmp .eq 17, 3) := by decide +kernel
theorem dX1_heldByOther_10 : decode cX1_heldByOther 10 = .ok (.aload_n 0, 1) := by decide +kernel
theorem dX1_heldByOther_11 : decode cX1_heldByOther 11 = .ok (.getfield 43, 3) := by decide +kernel
theorem dX1_heldByOther_14 : decode cX1_heldByOther 14 = .ok (.iload_n 1, 1) := by decide +kernel
theorem dX1_heldByOther_15 : decode cX1_heldByOther 15 = .ok (.iaload, 1) := by decide +kernel
theorem dX1_heldByOther_16 : decode cX1_heldByOther 16 = .ok (.iload_n 2, 1) := by decide +kernel
theorem dX1_heldByOther_17 : decode cX1_heldByOther 17 = .ok (.if_icmp .eq 7, 3) := by decide +kernel
theorem dX1_heldByOther_20 : decode cX1_heldByOther 20 = .ok (.iconst 1, 1) := by decide +kernel
theorem dX1_heldByOther_21 : decode cX1_heldByOther 21 = .ok (.goto 4, 3) := by decide +kernel
theorem dX1_heldByOther_24 : decode cX1_heldByOther 24 = .ok (.iconst 0, 1) := by decide +kernel
theorem dX1_heldByOther_25 : decode cX1_heldByOther 25 = .ok (.ireturn, 1) := by decide +kernel
theorem dX1_heldAtTurn_0 : decode cX1_heldAtTurn 0 = .ok (.iconst 0, 1) := by decide +kernel
theorem dX1_heldAtTurn_1 : decode cX1_heldAtTurn 1 = .ok (.istore_n 3, 1) := by decide +kernel
theorem dX1_heldAtTurn_2 : decode cX1_heldAtTurn 2 = .ok (.iload_n 3, 1) := by decide +kernel
theorem dX1_heldAtTurn_3 : decode cX1_heldAtTurn 3 = .ok (.aload_n 0, 1) := by decide +kernel
theorem dX1_heldAtTurn_4 : decode cX1_heldAtTurn 4 = .ok (.getfield 33, 3) := by decide +kernel
theorem dX1_heldAtTurn_7 : decode cX1_heldAtTurn 7 = .ok (.if_icmp .ge 31, 3) := by decide +kernel
theorem dX1_heldAtTurn_10 : decode cX1_heldAtTurn 10 = .ok (.aload_n 0, 1) := by decide +kernel
theorem dX1_heldAtTurn_11 : decode cX1_heldAtTurn 11 = .ok (.getfield 43, 3) := by decide +kernel
theorem dX1_heldAtTurn_14 : decode cX1_heldAtTurn 14 = .ok (.iload_n 3, 1) := by decide +kernel
theorem dX1_heldAtTurn_15 : decode cX1_heldAtTurn 15 = .ok (.iaload, 1) := by decide +kernel
theorem dX1_heldAtTurn_16 : decode cX1_heldAtTurn 16 = .ok (.iload_n 1, 1) := by decide +kernel
theorem dX1_heldAtTurn_17 : decode cX1_heldAtTurn 17 = .ok (.if_icmp .ne 15, 3) := by decide +kernel
theorem dX1_heldAtTurn_20 : decode cX1_heldAtTurn 20 = .ok (.aload_n 0, 1) := by decide +kernel
theorem dX1_heldAtTurn_21 : decode cX1_heldAtTurn 21 = .ok (.getfield 47, 3) := by decide +kernel
theorem dX1_heldAtTurn_24 : decode cX1_heldAtTurn 24 = .ok (.iload_n 3, 1) := by decide +kernel
theorem dX1_heldAtTurn_25 : decode cX1_heldAtTurn 25 = .ok (.iaload, 1) := by decide +kernel
theorem dX1_heldAtTurn_26 : decode cX1_heldAtTurn 26 = .ok (.iload_n 2, 1) := by decide +kernel
theorem dX1_heldAtTurn_27 : decode cX1_heldAtTurn 27 = .ok (.if_icmp .ne 5, 3) := by decide +kernel
theorem dX1_heldAtTurn_30 : decode cX1_heldAtTurn 30 = .ok (.iload_n 3, 1) := by decide +kernel
theorem dX1_heldAtTurn_31 : decode cX1_heldAtTurn 31 = .ok (.ireturn, 1) := by decide +kernel
theorem dX1_heldAtTurn_32 : decode cX1_heldAtTurn 32 = .ok (.iinc 3 1, 3) := by decide +kernel
theorem dX1_heldAtTurn_35 : decode cX1_heldAtTurn 35 = .ok (.goto (-33), 3) := by decide +kernel
theorem dX1_heldAtTurn_38 : decode cX1_heldAtTurn 38 = .ok (.iconst (-1), 1) := by decide +kernel
theorem dX1_heldAtTurn_39 : decode cX1_heldAtTurn 39 = .ok (.ireturn, 1) := by decide +kernel
theorem dX1_keepPinsAlone_0 : decode cX1_keepPinsAlone 0 = .ok (.iconst 0, 1) := by decide +kernel
theorem dX1_keepPinsAlone_1 : decode cX1_keepPinsAlone 1 = .ok (.istore_n 2, 1) := by decide +kernel
theorem dX1_keepPinsAlone_2 : decode cX1_keepPinsAlone 2 = .ok (.iload_n 2, 1) := by decide +kernel
theorem dX1_keepPinsAlone_3 : decode cX1_keepPinsAlone 3 = .ok (.aload_n 0, 1) := by decide +kernel
theorem dX1_keepPinsAlone_4 : decode cX1_keepPinsAlone 4 = .ok (.getfield 33, 3) := by decide +kernel
theorem dX1_keepPinsAlone_7 : decode cX1_keepPinsAlone 7 = .ok (.if_icmp .ge 35, 3) := by decide +kernel
theorem dX1_keepPinsAlone_10 : decode cX1_keepPinsAlone 10 = .ok (.aload_n 0, 1) := by decide +kernel
theorem dX1_keepPinsAlone_11 : decode cX1_keepPinsAlone 11 = .ok (.getfield 43, 3) := by decide +kernel
theorem dX1_keepPinsAlone_14 : decode cX1_keepPinsAlone 14 = .ok (.iload_n 2, 1) := by decide +kernel
theorem dX1_keepPinsAlone_15 : decode cX1_keepPinsAlone 15 = .ok (.iaload, 1) := by decide +kernel
theorem dX1_keepPinsAlone_16 : decode cX1_keepPinsAlone 16 = .ok (.iload_n 1, 1) := by decide +kernel
theorem dX1_keepPinsAlone_17 : decode cX1_keepPinsAlone 17 = .ok (.if_icmp .ne 19, 3) := by decide +kernel
theorem dX1_keepPinsAlone_20 : decode cX1_keepPinsAlone 20 = .ok (.aload_n 0, 1) := by decide +kernel
theorem dX1_keepPinsAlone_21 : decode cX1_keepPinsAlone 21 = .ok (.getfield 40, 3) := by decide +kernel
theorem dX1_keepPinsAlone_24 : decode cX1_keepPinsAlone 24 = .ok (.iload_n 2, 1) := by decide +kernel
theorem dX1_keepPinsAlone_25 : decode cX1_keepPinsAlone 25 = .ok (.baload, 1) := by decide +kernel
theorem dX1_keepPinsAlone_26 : decode cX1_keepPinsAlone 26 = .ok (.ifCond .ne 10, 3) := by decide +kernel
theorem dX1_keepPinsAlone_29 : decode cX1_keepPinsAlone 29 = .ok (.aload_n 0, 1) := by decide +kernel
theorem dX1_keepPinsAlone_30 : decode cX1_keepPinsAlone 30 = .ok (.getfield 43, 3) := by decide +kernel
theorem dX1_keepPinsAlone_33 : decode cX1_keepPinsAlone 33 = .ok (.iload_n 2, 1) := by decide +kernel
theorem dX1_keepPinsAlone_34 : decode cX1_keepPinsAlone 34 = .ok (.iconst (-1), 1) := by decide +kernel
theorem dX1_keepPinsAlone_35 : decode cX1_keepPinsAlone 35 = .ok (.iastore, 1) := by decide +kernel
theorem dX1_keepPinsAlone_36 : decode cX1_keepPinsAlone 36 = .ok (.iinc 2 1, 3) := by decide +kernel
theorem dX1_keepPinsAlone_39 : decode cX1_keepPinsAlone 39 = .ok (.goto (-37), 3) := by decide +kernel
theorem dX1_keepPinsAlone_42 : decode cX1_keepPinsAlone 42 = .ok (.return_, 1) := by decide +kernel
theorem dX2_init_0 : decode cX2_init 0 = .ok (.aload_n 0, 1) := by decide +kernel
theorem dX2_init_1 : decode cX2_init 1 = .ok (.invokespecial 1, 3) := by decide +kernel
theorem dX2_init_4 : decode cX2_init 4 = .ok (.aload_n 0, 1) := by decide +kernel
theorem dX2_init_5 : decode cX2_init 5 = .ok (.iconst 5, 1) := by decide +kernel
theorem dX2_init_6 : decode cX2_init 6 = .ok (.newarray .int, 2) := by decide +kernel
theorem dX2_init_8 : decode cX2_init 8 = .ok (.putfield 9, 3) := by decide +kernel
theorem dX2_init_11 : decode cX2_init 11 = .ok (.return_, 1) := by decide +kernel
theorem dX2_isOpen_0 : decode cX2_isOpen 0 = .ok (.aload_n 0, 1) := by decide +kernel
theorem dX2_isOpen_1 : decode cX2_isOpen 1 = .ok (.getfield 13, 3) := by decide +kernel
theorem dX2_isOpen_4 : decode cX2_isOpen 4 = .ok (.ifCond .le 14, 3) := by decide +kernel
theorem dX2_isOpen_7 : decode cX2_isOpen 7 = .ok (.aload_n 0, 1) := by decide +kernel
theorem dX2_isOpen_8 : decode cX2_isOpen 8 = .ok (.getfield 17, 3) := by decide +kernel
theorem dX2_isOpen_11 : decode cX2_isOpen 11 = .ok (.ifCond .ne 7, 3) := by decide +kernel
theorem dX2_isOpen_14 : decode cX2_isOpen 14 = .ok (.iconst 1, 1) := by decide +kernel
theorem dX2_isOpen_15 : decode cX2_isOpen 15 = .ok (.goto 4, 3) := by decide +kernel
theorem dX2_isOpen_18 : decode cX2_isOpen 18 = .ok (.iconst 0, 1) := by decide +kernel
theorem dX2_isOpen_19 : decode cX2_isOpen 19 = .ok (.ireturn, 1) := by decide +kernel
theorem dX2_hasRoom_0 : decode cX2_hasRoom 0 = .ok (.aload_n 0, 1) := by decide +kernel
theorem dX2_hasRoom_1 : decode cX2_hasRoom 1 = .ok (.getfield 13, 3) := by decide +kernel
theorem dX2_hasRoom_4 : decode cX2_hasRoom 4 = .ok (.iconst 5, 1) := by decide +kernel
theorem dX2_hasRoom_5 : decode cX2_hasRoom 5 = .ok (.if_icmp .ge 7, 3) := by decide +kernel
theorem dX2_hasRoom_8 : decode cX2_hasRoom 8 = .ok (.iconst 1, 1) := by decide +kernel
theorem dX2_hasRoom_9 : decode cX2_hasRoom 9 = .ok (.goto 4, 3) := by decide +kernel
theorem dX2_hasRoom_12 : decode cX2_hasRoom 12 = .ok (.iconst 0, 1) := by decide +kernel
theorem dX2_hasRoom_13 : decode cX2_hasRoom 13 = .ok (.ireturn, 1) := by decide +kernel
set_option maxRecDepth 20000 in
theorem ggX2_addPin_X2_hasRoom : GoodIn wsX2_addPin wsX2_hasRoom := goodIn_r _ [7, 2, 8, 9, 10, 11, 12, 13] (by decide +kernel) (by decide +kernel)
set_option maxRecDepth 20000 in
theorem gX2_addPin_X2_hasRoom : GoodIn wsX2_addPin (wsV RX2 21 RX2 yX2_hasRoom wsX2_hasRoom) := goodIn_app (goodIn_of _ (by decide +kernel)) ggX2_addPin_X2_hasRoom
theorem dX2_addPin_0 : decode cX2_addPin 0 = .ok (.aload_n 0, 1) := by decide +kernel
theorem dX2_addPin_1 : decode cX2_addPin 1 = .ok (.invokevirtual 21, 3) := by decide +kernel
theorem dX2_addPin_4 : decode cX2_addPin 4 = .ok (.ifCond .eq 23, 3) := by decide +kernel
theorem dX2_addPin_7 : decode cX2_addPin 7 = .ok (.aload_n 0, 1) := by decide +kernel
theorem dX2_addPin_8 : decode cX2_addPin 8 = .ok (.getfield 9, 3) := by decide +kernel
theorem dX2_addPin_11 : decode cX2_addPin 11 = .ok (.aload_n 0, 1) := by decide +kernel
theorem dX2_addPin_12 : decode cX2_addPin 12 = .ok (.getfield 13, 3) := by decide +kernel
theorem dX2_addPin_15 : decode cX2_addPin 15 = .ok (.iload_n 1, 1) := by decide +kernel
theorem dX2_addPin_16 : decode cX2_addPin 16 = .ok (.iastore, 1) := by decide +kernel
theorem dX2_addPin_17 : decode cX2_addPin 17 = .ok (.aload_n 0, 1) := by decide +kernel
theorem dX2_addPin_18 : decode cX2_addPin 18 = .ok (.dup, 1) := by decide +kernel
theorem dX2_addPin_19 : decode cX2_addPin 19 = .ok (.getfield 13, 3) := by decide +kernel
theorem dX2_addPin_22 : decode cX2_addPin 22 = .ok (.iconst 1, 1) := by decide +kernel
theorem dX2_addPin_23 : decode cX2_addPin 23 = .ok (.iadd, 1) := by decide +kernel
theorem dX2_addPin_24 : decode cX2_addPin 24 = .ok (.putfield 13, 3) := by decide +kernel
theorem dX2_addPin_27 : decode cX2_addPin 27 = .ok (.return_, 1) := by decide +kernel
theorem dX3_init_0 : decode cX3_init 0 = .ok (.aload_n 0, 1) := by decide +kernel
theorem dX3_init_1 : decode cX3_init 1 = .ok (.invokespecial 1, 3) := by decide +kernel
theorem dX3_init_4 : decode cX3_init 4 = .ok (.aload_n 0, 1) := by decide +kernel
theorem dX3_init_5 : decode cX3_init 5 = .ok (.iconst 4, 1) := by decide +kernel
theorem dX3_init_6 : decode cX3_init 6 = .ok (.newarray .int, 2) := by decide +kernel
theorem dX3_init_8 : decode cX3_init 8 = .ok (.putfield 9, 3) := by decide +kernel
theorem dX3_init_11 : decode cX3_init 11 = .ok (.aload_n 0, 1) := by decide +kernel
theorem dX3_init_12 : decode cX3_init 12 = .ok (.iconst 4, 1) := by decide +kernel
theorem dX3_init_13 : decode cX3_init 13 = .ok (.newarray .int, 2) := by decide +kernel
theorem dX3_init_15 : decode cX3_init 15 = .ok (.putfield 15, 3) := by decide +kernel
theorem dX3_init_18 : decode cX3_init 18 = .ok (.aload_n 0, 1) := by decide +kernel
theorem dX3_init_19 : decode cX3_init 19 = .ok (.iconst 4, 1) := by decide +kernel
theorem dX3_init_20 : decode cX3_init 20 = .ok (.newarray .int, 2) := by decide +kernel
theorem dX3_init_22 : decode cX3_init 22 = .ok (.putfield 18, 3) := by decide +kernel
theorem dX3_init_25 : decode cX3_init 25 = .ok (.return_, 1) := by decide +kernel
theorem dX3_change_0 : decode cX3_change 0 = .ok (.aload_n 0, 1) := by decide +kernel
theorem dX3_change_1 : decode cX3_change 1 = .ok (.getfield 9, 3) := by decide +kernel
theorem dX3_change_4 : decode cX3_change 4 = .ok (.iload_n 1, 1) := by decide +kernel
theorem dX3_change_5 : decode cX3_change 5 = .ok (.iaload, 1) := by decide +kernel
theorem dX3_change_6 : decode cX3_change 6 = .ok (.iload_n 2, 1) := by decide +kernel
theorem dX3_change_7 : decode cX3_change 7 = .ok (.if_icmp .ne 24, 3) := by decide +kernel
theorem dX3_change_10 : decode cX3_change 10 = .ok (.aload_n 0, 1) := by decide +kernel
theorem dX3_change_11 : decode cX3_change 11 = .ok (.getfield 15, 3) := by decide +kernel
theorem dX3_change_14 : decode cX3_change 14 = .ok (.iload_n 1, 1) := by decide +kernel
theorem dX3_change_15 : decode cX3_change 15 = .ok (.iaload, 1) := by decide +kernel
theorem dX3_change_16 : decode cX3_change 16 = .ok (.iload_n 3, 1) := by decide +kernel
theorem dX3_change_17 : decode cX3_change 17 = .ok (.if_icmp .ne 14, 3) := by decide +kernel
theorem dX3_change_20 : decode cX3_change 20 = .ok (.aload_n 0, 1) := by decide +kernel
theorem dX3_change_21 : decode cX3_change 21 = .ok (.getfield 18, 3) := by decide +kernel
theorem dX3_change_24 : decode cX3_change 24 = .ok (.iload_n 1, 1) := by decide +kernel
theorem dX3_change_25 : decode cX3_change 25 = .ok (.iaload, 1) := by decide +kernel
theorem dX3_change_26 : decode cX3_change 26 = .ok (.iload 4, 2) := by decide +kernel
theorem dX3_change_28 : decode cX3_change 28 = .ok (.if_icmp .eq 7, 3) := by decide +kernel
theorem dX3_change_31 : decode cX3_change 31 = .ok (.iconst 1, 1) := by decide +kernel
theorem dX3_change_32 : decode cX3_change 32 = .ok (.goto 4, 3) := by decide +kernel
theorem dX3_change_35 : decode cX3_change 35 = .ok (.iconst 0, 1) := by decide +kernel
theorem dX3_change_36 : decode cX3_change 36 = .ok (.istore 5, 2) := by decide +kernel
theorem dX3_change_38 : decode cX3_change 38 = .ok (.aload_n 0, 1) := by decide +kernel
theorem dX3_change_39 : decode cX3_change 39 = .ok (.getfield 9, 3) := by decide +kernel
theorem dX3_change_42 : decode cX3_change 42 = .ok (.iload_n 1, 1) := by decide +kernel
theorem dX3_change_43 : decode cX3_change 43 = .ok (.iload_n 2, 1) := by decide +kernel
theorem dX3_change_44 : decode cX3_change 44 = .ok (.iastore, 1) := by decide +kernel
theorem dX3_change_45 : decode cX3_change 45 = .ok (.aload_n 0, 1) := by decide +kernel
theorem dX3_change_46 : decode cX3_change 46 = .ok (.getfield 15, 3) := by decide +kernel
theorem dX3_change_49 : decode cX3_change 49 = .ok (.iload_n 1, 1) := by decide +kernel
theorem dX3_change_50 : decode cX3_change 50 = .ok (.iload_n 3, 1) := by decide +kernel
theorem dX3_change_51 : decode cX3_change 51 = .ok (.iastore, 1) := by decide +kernel
theorem dX3_change_52 : decode cX3_change 52 = .ok (.aload_n 0, 1) := by decide +kernel
theorem dX3_change_53 : decode cX3_change 53 = .ok (.getfield 18, 3) := by decide +kernel
theorem dX3_change_56 : decode cX3_change 56 = .ok (.iload_n 1, 1) := by decide +kernel
theorem dX3_change_57 : decode cX3_change 57 = .ok (.iload 4, 2) := by decide +kernel
theorem dX3_change_59 : decode cX3_change 59 = .ok (.iastore, 1) := by decide +kernel
theorem dX3_change_60 : decode cX3_change 60 = .ok (.iload 5, 2) := by decide +kernel
theorem dX3_change_62 : decode cX3_change 62 = .ok (.ireturn, 1) := by decide +kernel
theorem dX3_ofMove_0 : decode cX3_ofMove 0 = .ok (.iload_n 2, 1) := by decide +kernel
theorem dX3_ofMove_1 : decode cX3_ofMove 1 = .ok (.iconst 5, 1) := by decide +kernel
theorem dX3_ofMove_2 : decode cX3_ofMove 2 = .ok (.if_icmp .ne 12, 3) := by decide +kernel
theorem dX3_ofMove_5 : decode cX3_ofMove 5 = .ok (.iconst 2, 1) := by decide +kernel
theorem dX3_ofMove_6 : decode cX3_ofMove 6 = .ok (.aload_n 0, 1) := by decide +kernel
theorem dX3_ofMove_7 : decode cX3_ofMove 7 = .ok (.getfield 15, 3) := by decide +kernel
theorem dX3_ofMove_10 : decode cX3_ofMove 10 = .ok (.iload_n 1, 1) := by decide +kernel
theorem dX3_ofMove_11 : decode cX3_ofMove 11 = .ok (.iaload, 1) := by decide +kernel
theorem dX3_ofMove_12 : decode cX3_ofMove 12 = .ok (.iadd, 1) := by decide +kernel
theorem dX3_ofMove_13 : decode cX3_ofMove 13 = .ok (.ireturn, 1) := by decide +kernel
theorem dX3_ofMove_14 : decode cX3_ofMove 14 = .ok (.iload_n 2, 1) := by decide +kernel
theorem dX3_ofMove_15 : decode cX3_ofMove 15 = .ok (.ifCond .ne 22, 3) := by decide +kernel
theorem dX3_ofMove_18 : decode cX3_ofMove 18 = .ok (.iload_n 1, 1) := by decide +kernel
theorem dX3_ofMove_19 : decode cX3_ofMove 19 = .ok (.ifCond .le 16, 3) := by decide +kernel
theorem dX3_ofMove_22 : decode cX3_ofMove 22 = .ok (.iconst 2, 1) := by decide +kernel
theorem dX3_ofMove_23 : decode cX3_ofMove 23 = .ok (.aload_n 0, 1) := by decide +kernel
theorem dX3_ofMove_24 : decode cX3_ofMove 24 = .ok (.getfield 15, 3) := by decide +kernel
theorem dX3_ofMove_27 : decode cX3_ofMove 27 = .ok (.iload_n 1, 1) := by decide +kernel
theorem dX3_ofMove_28 : decode cX3_ofMove 28 = .ok (.iconst 1, 1) := by decide +kernel
theorem dX3_ofMove_29 : decode cX3_ofMove 29 = .ok (.isub, 1) := by decide +kernel
theorem dX3_ofMove_30 : decode cX3_ofMove 30 = .ok (.iaload, 1) := by decide +kernel
theorem dX3_ofMove_31 : decode cX3_ofMove 31 = .ok (.iadd, 1) := by decide +kernel
theorem dX3_ofMove_32 : decode cX3_ofMove 32 = .ok (.goto 4, 3) := by decide +kernel
theorem dX3_ofMove_35 : decode cX3_ofMove 35 = .ok (.iconst 2, 1) := by decide +kernel
theorem dX3_ofMove_36 : decode cX3_ofMove 36 = .ok (.ireturn, 1) := by decide +kernel
theorem dX3_ofMove_37 : decode cX3_ofMove 37 = .ok (.iload_n 2, 1) := by decide +kernel
theorem dX3_ofMove_38 : decode cX3_ofMove 38 = .ok (.iconst 2, 1) := by decide +kernel
theorem dX3_ofMove_39 : decode cX3_ofMove 39 = .ok (.if_icmp .eq 8, 3) := by decide +kernel
theorem dX3_ofMove_42 : decode cX3_ofMove 42 = .ok (.iload_n 2, 1) := by decide +kernel
theorem dX3_ofMove_43 : decode cX3_ofMove 43 = .ok (.iconst 3, 1) := by decide +kernel
theorem dX3_ofMove_44 : decode cX3_ofMove 44 = .ok (.if_icmp .ne 7, 3) := by decide +kernel
theorem dX3_ofMove_47 : decode cX3_ofMove 47 = .ok (.iconst 1, 1) := by decide +kernel
theorem dX3_ofMove_48 : decode cX3_ofMove 48 = .ok (.goto 4, 3) := by decide +kernel
theorem dX3_ofMove_51 : decode cX3_ofMove 51 = .ok (.iconst 0, 1) := by decide +kernel
theorem dX3_ofMove_52 : decode cX3_ofMove 52 = .ok (.istore_n 3, 1) := by decide +kernel
theorem dX3_ofMove_53 : decode cX3_ofMove 53 = .ok (.iload_n 1, 1) := by decide +kernel
theorem dX3_ofMove_54 : decode cX3_ofMove 54 = .ok (.iconst 2, 1) := by decide +kernel
theorem dX3_ofMove_55 : decode cX3_ofMove 55 = .ok (.irem, 1) := by decide +kernel
theorem dX3_ofMove_56 : decode cX3_ofMove 56 = .ok (.ifCond .ne 7, 3) := by decide +kernel
theorem dX3_ofMove_59 : decode cX3_ofMove 59 = .ok (.iconst 1, 1) := by decide +kernel
theorem dX3_ofMove_60 : decode cX3_ofMove 60 = .ok (.goto 4, 3) := by decide +kernel
theorem dX3_ofMove_63 : decode cX3_ofMove 63 = .ok (.iconst 0, 1) := by decide +kernel
theorem dX3_ofMove_64 : decode cX3_ofMove 64 = .ok (.istore 4, 2) := by decide +kernel
theorem dX3_ofMove_66 : decode cX3_ofMove 66 = .ok (.iload_n 3, 1) := by decide +kernel
theorem dX3_ofMove_67 : decode cX3_ofMove 67 = .ok (.iload 4, 2) := by decide +kernel
theorem dX3_ofMove_69 : decode cX3_ofMove 69 = .ok (.if_icmp .ne 7, 3) := by decide +kernel
theorem dX3_ofMove_72 : decode cX3_ofMove 72 = .ok (.iconst 2, 1) := by decide +kernel
theorem dX3_ofMove_73 : decode cX3_ofMove 73 = .ok (.goto 11, 3) := by decide +kernel
theorem dX3_ofMove_76 : decode cX3_ofMove 76 = .ok (.iconst 2, 1) := by decide +kernel
theorem dX3_ofMove_77 : decode cX3_ofMove 77 = .ok (.aload_n 0, 1) := by decide +kernel
theorem dX3_ofMove_78 : decode cX3_ofMove 78 = .ok (.getfield 9, 3) := by decide +kernel
theorem dX3_ofMove_81 : decode cX3_ofMove 81 = .ok (.iload_n 1, 1) := by decide +kernel
theorem dX3_ofMove_82 : decode cX3_ofMove 82 = .ok (.iaload, 1) := by decide +kernel
theorem dX3_ofMove_83 : decode cX3_ofMove 83 = .ok (.iadd, 1) := by decide +kernel
theorem dX3_ofMove_84 : decode cX3_ofMove 84 = .ok (.ireturn, 1) := by decide +kernel
set_option maxRecDepth 20000 in
theorem ggX4_init_X0_init : GoodIn wsX4_init wsX0_init := goodIn_r _ [16, 17, 2, 3, 18, 19, 20, 21, 37, 38, 39, 40] (by decide +kernel) (by decide +kernel)
set_option maxRecDepth 20000 in
theorem gX4_init_X0_init : GoodIn wsX4_init (wsX0_init) := ggX4_init_X0_init
theorem dX4_init_0 : decode cX4_init 0 = .ok (.aload_n 0, 1) := by decide +kernel
theorem dX4_init_1 : decode cX4_init 1 = .ok (.invokespecial 3, 3) := by decide +kernel
theorem dX4_init_4 : decode cX4_init 4 = .ok (.aload_n 0, 1) := by decide +kernel
theorem dX4_init_5 : decode cX4_init 5 = .ok (.aload_n 1, 1) := by decide +kernel
theorem dX4_init_6 : decode cX4_init 6 = .ok (.putfield 9, 3) := by decide +kernel
theorem dX4_init_9 : decode cX4_init 9 = .ok (.aload_n 0, 1) := by decide +kernel
theorem dX4_init_10 : decode cX4_init 10 = .ok (.aload_n 2, 1) := by decide +kernel
theorem dX4_init_11 : decode cX4_init 11 = .ok (.putfield 15, 3) := by decide +kernel
theorem dX4_init_14 : decode cX4_init 14 = .ok (.aload_n 0, 1) := by decide +kernel
theorem dX4_init_15 : decode cX4_init 15 = .ok (.aload_n 1, 1) := by decide +kernel
theorem dX4_init_16 : decode cX4_init 16 = .ok (.getfield 19, 3) := by decide +kernel
theorem dX4_init_19 : decode cX4_init 19 = .ok (.newarray .long, 2) := by decide +kernel
theorem dX4_init_21 : decode cX4_init 21 = .ok (.putfield 25, 3) := by decide +kernel
theorem dX4_init_24 : decode cX4_init 24 = .ok (.aload_n 0, 1) := by decide +kernel
theorem dX4_init_25 : decode cX4_init 25 = .ok (.aload_n 1, 1) := by decide +kernel
theorem dX4_init_26 : decode cX4_init 26 = .ok (.getfield 19, 3) := by decide +kernel
theorem dX4_init_29 : decode cX4_init 29 = .ok (.newarray .long, 2) := by decide +kernel
theorem dX4_init_31 : decode cX4_init 31 = .ok (.putfield 29, 3) := by decide +kernel
theorem dX4_init_34 : decode cX4_init 34 = .ok (.aload_n 0, 1) := by decide +kernel
theorem dX4_init_35 : decode cX4_init 35 = .ok (.new 32, 3) := by decide +kernel
theorem dX4_init_38 : decode cX4_init 38 = .ok (.dup, 1) := by decide +kernel
theorem dX4_init_39 : decode cX4_init 39 = .ok (.aload_n 0, 1) := by decide +kernel
theorem dX4_init_40 : decode cX4_init 40 = .ok (.getfield 25, 3) := by decide +kernel
theorem dX4_init_43 : decode cX4_init 43 = .ok (.invokespecial 34, 3) := by decide +kernel
theorem dX4_init_46 : decode cX4_init 46 = .ok (.putfield 37, 3) := by decide +kernel
theorem dX4_init_49 : decode cX4_init 49 = .ok (.return_, 1) := by decide +kernel
set_option maxRecDepth 20000 in
theorem ggX4_reachesPin_X4_setTolls : GoodIn wsX4_reachesPin wsX4_setTolls := goodIn_r _ [11, 1, 2, 12, 13, 14, 15, 16, 17, 18, 19, 20, 21, 22, 23, 24, 25, 26, 10, 27, 28, 29, 30, 31, 32, 33, 34, 35, 36, 37, 38, 39, 40, 90, 91, 92, 93, 94, 95, 96, 97, 98, 99, 100, 101, 102, 103, 104, 109, 110, 111] (by decide +kernel) (by decide +kernel)
set_option maxRecDepth 20000 in
theorem gX4_reachesPin_X4_setTolls : GoodIn wsX4_reachesPin (wsV RX4 41 RX4 yX4_setTolls wsX4_setTolls) := goodIn_app (goodIn_of _ (by decide +kernel)) ggX4_reachesPin_X4_setTolls
set_option maxRecDepth 20000 in
theorem ggX4_reachesPin_X4_startFrom : GoodIn wsX4_reachesPin wsX4_startFrom := goodIn_r _ [44, 6, 15, 3, 45, 46, 47, 48, 49, 50, 51, 52, 53, 54, 55, 56, 57, 58, 59, 60, 61, 62, 63, 64, 65, 66, 67, 68, 69, 70, 90, 91, 92, 93, 94, 112, 113, 105, 106, 107, 108] (by decide +kernel) (by decide +kernel)
set_option maxRecDepth 20000 in
theorem gX4_reachesPin_X4_startFrom : GoodIn wsX4_reachesPin (wsV RX4 45 RX4 yX4_startFrom wsX4_startFrom) := goodIn_app (goodIn_of _ (by decide +kernel)) ggX4_reachesPin_X4_startFrom
set_option maxRecDepth 20000 in
theorem ggX4_reachesPin_X0_takeNearest : GoodIn wsX4_reachesPin wsX0_takeNearest := goodIn_r _ [74, 65, 57, 56, 75, 76, 77, 54, 78, 66, 67, 68, 69, 70, 105, 106, 107, 108] (by decide +kernel) (by decide +kernel)
set_option maxRecDepth 20000 in
theorem gX4_reachesPin_X0_takeNearest : GoodIn wsX4_reachesPin (wsV RX4 52 RX0 yX0_takeNearest wsX0_takeNearest) := goodIn_app (goodIn_of _ (by decide +kernel)) ggX4_reachesPin_X0_takeNearest
set_option maxRecDepth 20000 in
theorem ggX4_reachesPin_X4_spreadFrom : GoodIn wsX4_reachesPin wsX4_spreadFrom := goodIn_r _ [82, 1, 14, 15, 6, 28, 3, 30, 31, 32, 21, 33, 34, 35, 36, 37, 38, 39, 40, 83, 84, 85, 86, 87, 88, 89, 61, 62, 63, 54, 64, 57, 56, 65, 66, 67, 68, 69, 70, 90, 91, 92, 93, 94, 95, 96, 97, 98, 99, 100, 101, 102, 103, 104, 109, 110, 111, 105, 106, 107, 108] (by decide +kernel) (by decide +kernel)
set_option maxRecDepth 20000 in
theorem gX4_reachesPin_X4_spreadFrom : GoodIn wsX4_reachesPin (wsV RX4 60 RX4 yX4_spreadFrom wsX4_spreadFrom) := goodIn_app (goodIn_of _ (by decide +kernel)) ggX4_reachesPin_X4_spreadFrom
theorem dX4_reachesPin_0 : decode cX4_reachesPin 0 = .ok (.aload_n 0, 1) := by decide +kernel
theorem dX4_reachesPin_1 : decode cX4_reachesPin 1 = .ok (.iload_n 1, 1) := by decide +kernel
theorem dX4_reachesPin_2 : decode cX4_reachesPin 2 = .ok (.iload_n 3, 1) := by decide +kernel
theorem dX4_reachesPin_3 : decode cX4_reachesPin 3 = .ok (.invokevirtual 41, 3) := by decide +kernel
theorem dX4_reachesPin_6 : decode cX4_reachesPin 6 = .ok (.aload_n 0, 1) := by decide +kernel
theorem dX4_reachesPin_7 : decode cX4_reachesPin 7 = .ok (.aload_n 2, 1) := by decide +kernel
theorem dX4_reachesPin_8 : decode cX4_reachesPin 8 = .ok (.invokevirtual 45, 3) := by decide +kernel
theorem dX4_reachesPin_11 : decode cX4_reachesPin 11 = .ok (.iconst 0, 1) := by decide +kernel
theorem dX4_reachesPin_12 : decode cX4_reachesPin 12 = .ok (.istore 4, 2) := by decide +kernel
theorem dX4_reachesPin_14 : decode cX4_reachesPin 14 = .ok (.iload 4, 2) := by decide +kernel
theorem dX4_reachesPin_16 : decode cX4_reachesPin 16 = .ok (.aload_n 0, 1) := by decide +kernel
theorem dX4_reachesPin_17 : decode cX4_reachesPin 17 = .ok (.getfield 9, 3) := by decide +kernel
theorem dX4_reachesPin_20 : decode cX4_reachesPin 20 = .ok (.getfield 19, 3) := by decide +kernel
theorem dX4_reachesPin_23 : decode cX4_reachesPin 23 = .ok (.if_icmp .ge 62, 3) := by decide +kernel
theorem dX4_reachesPin_26 : decode cX4_reachesPin 26 = .ok (.aload_n 0, 1) := by decide +kernel
theorem dX4_reachesPin_27 : decode cX4_reachesPin 27 = .ok (.getfield 37, 3) := by decide +kernel
theorem dX4_reachesPin_30 : decode cX4_reachesPin 30 = .ok (.getfield 49, 3) := by decide +kernel
theorem dX4_reachesPin_33 : decode cX4_reachesPin 33 = .ok (.ifCond .le 52, 3) := by decide +kernel
theorem dX4_reachesPin_36 : decode cX4_reachesPin 36 = .ok (.aload_n 0, 1) := by decide +kernel
theorem dX4_reachesPin_37 : decode cX4_reachesPin 37 = .ok (.getfield 37, 3) := by decide +kernel
theorem dX4_reachesPin_40 : decode cX4_reachesPin 40 = .ok (.invokevirtual 52, 3) := by decide +kernel
theorem dX4_reachesPin_43 : decode cX4_reachesPin 43 = .ok (.istore 5, 2) := by decide +kernel
theorem dX4_reachesPin_45 : decode cX4_reachesPin 45 = .ok (.aload_n 0, 1) := by decide +kernel
theorem dX4_reachesPin_46 : decode cX4_reachesPin 46 = .ok (.getfield 9, 3) := by decide +kernel
theorem dX4_reachesPin_49 : decode cX4_reachesPin 49 = .ok (.getfield 56, 3) := by decide +kernel
theorem dX4_reachesPin_52 : decode cX4_reachesPin 52 = .ok (.iload 5, 2) := by decide +kernel
theorem dX4_reachesPin_54 : decode cX4_reachesPin 54 = .ok (.iaload, 1) := by decide +kernel
theorem dX4_reachesPin_55 : decode cX4_reachesPin 55 = .ok (.iload_n 1, 1) := by decide +kernel
theorem dX4_reachesPin_56 : decode cX4_reachesPin 56 = .ok (.if_icmp .ne 17, 3) := by decide +kernel
theorem dX4_reachesPin_59 : decode cX4_reachesPin 59 = .ok (.aload_n 0, 1) := by decide +kernel
theorem dX4_reachesPin_60 : decode cX4_reachesPin 60 = .ok (.getfield 25, 3) := by decide +kernel
theorem dX4_reachesPin_63 : decode cX4_reachesPin 63 = .ok (.iload 5, 2) := by decide +kernel
theorem dX4_reachesPin_65 : decode cX4_reachesPin 65 = .ok (.laload, 1) := by decide +kernel
theorem dX4_reachesPin_66 : decode cX4_reachesPin 66 = .ok (.lconst 0, 1) := by decide +kernel
theorem dX4_reachesPin_67 : decode cX4_reachesPin 67 = .ok (.lcmp, 1) := by decide +kernel
theorem dX4_reachesPin_68 : decode cX4_reachesPin 68 = .ok (.ifCond .le 5, 3) := by decide +kernel
theorem dX4_reachesPin_71 : decode cX4_reachesPin 71 = .ok (.iconst 1, 1) := by decide +kernel
theorem dX4_reachesPin_72 : decode cX4_reachesPin 72 = .ok (.ireturn, 1) := by decide +kernel
theorem dX4_reachesPin_73 : decode cX4_reachesPin 73 = .ok (.aload_n 0, 1) := by decide +kernel
theorem dX4_reachesPin_74 : decode cX4_reachesPin 74 = .ok (.iload 5, 2) := by decide +kernel
theorem dX4_reachesPin_76 : decode cX4_reachesPin 76 = .ok (.invokevirtual 60, 3) := by decide +kernel
theorem dX4_reachesPin_79 : decode cX4_reachesPin 79 = .ok (.iinc 4 1, 3) := by decide +kernel
theorem dX4_reachesPin_82 : decode cX4_reachesPin 82 = .ok (.goto (-68), 3) := by decide +kernel
theorem dX4_reachesPin_85 : decode cX4_reachesPin 85 = .ok (.iconst 0, 1) := by decide +kernel
theorem dX4_reachesPin_86 : decode cX4_reachesPin 86 = .ok (.ireturn, 1) := by decide +kernel
set_option maxRecDepth 20000 in
theorem ggX4_setTolls_X1_heldByOther : GoodIn wsX4_setTolls wsX1_heldByOther := goodIn_r _ [13, 14, 38, 39, 40, 41, 42, 43, 44, 45, 46, 47] (by decide +kernel) (by decide +kernel)
set_option maxRecDepth 20000 in
theorem gX4_setTolls_X1_heldByOther : GoodIn wsX4_setTolls (wsV RX4 64 RX1 yX1_heldByOther wsX1_heldByOther) := goodIn_app (goodIn_of _ (by decide +kernel)) ggX4_setTolls_X1_heldByOther
set_option maxRecDepth 20000 in
theorem ggX4_setTolls_X4_raiseTollsBeside : GoodIn wsX4_setTolls wsX4_raiseTollsBeside := goodIn_r _ [19, 20, 21, 1, 5, 6, 22, 23, 24, 12, 25, 26, 27, 28, 29, 30, 31, 32, 33, 34, 35, 36, 37, 48, 49, 50, 38, 39, 40, 41, 42, 43, 44, 45, 46, 47] (by decide +kernel) (by decide +kernel)
set_option maxRecDepth 20000 in
theorem gX4_setTolls_X4_raiseTollsBeside : GoodIn wsX4_setTolls (wsV RX4 82 RX4 yX4_raiseTollsBeside wsX4_raiseTollsBeside) := goodIn_app (goodIn_of _ (by decide +kernel)) ggX4_setTolls_X4_raiseTollsBeside
theorem dX4_setTolls_0 : decode cX4_setTolls 0 = .ok (.iconst 0, 1) := by decide +kernel
theorem dX4_setTolls_1 : decode cX4_setTolls 1 = .ok (.istore_n 3, 1) := by decide +kernel
theorem dX4_setTolls_2 : decode cX4_setTolls 2 = .ok (.iload_n 3, 1) := by decide +kernel
theorem dX4_setTolls_3 : decode cX4_setTolls 3 = .ok (.aload_n 0, 1) := by decide +kernel
theorem dX4_setTolls_4 : decode cX4_setTolls 4 = .ok (.getfield 9, 3) := by decide +kernel
theorem dX4_setTolls_7 : decode cX4_setTolls 7 = .ok (.getfield 19, 3) := by decide +kernel
theorem dX4_setTolls_10 : decode cX4_setTolls 10 = .ok (.if_icmp .ge 99, 3) := by decide +kernel
theorem dX4_setTolls_13 : decode cX4_setTolls 13 = .ok (.aload_n 0, 1) := by decide +kernel
theorem dX4_setTolls_14 : decode cX4_setTolls 14 = .ok (.getfield 9, 3) := by decide +kernel
theorem dX4_setTolls_17 : decode cX4_setTolls 17 = .ok (.iload_n 3, 1) := by decide +kernel
theorem dX4_setTolls_18 : decode cX4_setTolls 18 = .ok (.iload_n 1, 1) := by decide +kernel
theorem dX4_setTolls_19 : decode cX4_setTolls 19 = .ok (.invokevirtual 64, 3) := by decide +kernel
theorem dX4_setTolls_22 : decode cX4_setTolls 22 = .ok (.istore 4, 2) := by decide +kernel
theorem dX4_setTolls_24 : decode cX4_setTolls 24 = .ok (.aload_n 0, 1) := by decide +kernel
theorem dX4_setTolls_25 : decode cX4_setTolls 25 = .ok (.getfield 9, 3) := by decide +kernel
theorem dX4_setTolls_28 : decode cX4_setTolls 28 = .ok (.getfield 68, 3) := by decide +kernel
theorem dX4_setTolls_31 : decode cX4_setTolls 31 = .ok (.iload_n 3, 1) := by decide +kernel
theorem dX4_setTolls_32 : decode cX4_setTolls 32 = .ok (.baload, 1) := by decide +kernel
theorem dX4_setTolls_33 : decode cX4_setTolls 33 = .ok (.ifCond .ne 24, 3) := by decide +kernel
theorem dX4_setTolls_36 : decode cX4_setTolls 36 = .ok (.iload 4, 2) := by decide +kernel
theorem dX4_setTolls_38 : decode cX4_setTolls 38 = .ok (.ifCond .eq 23, 3) := by decide +kernel
theorem dX4_setTolls_41 : decode cX4_setTolls 41 = .ok (.iload_n 2, 1) := by decide +kernel
theorem dX4_setTolls_42 : decode cX4_setTolls 42 = .ok (.ifCond .eq 15, 3) := by decide +kernel
theorem dX4_setTolls_45 : decode cX4_setTolls 45 = .ok (.aload_n 0, 1) := by decide +kernel
theorem dX4_setTolls_46 : decode cX4_setTolls 46 = .ok (.getfield 9, 3) := by decide +kernel
theorem dX4_setTolls_49 : decode cX4_setTolls 49 = .ok (.getfield 72, 3) := by decide +kernel
theorem dX4_setTolls_52 : decode cX4_setTolls 52 = .ok (.iload_n 3, 1) := by decide +kernel
theorem dX4_setTolls_53 : decode cX4_setTolls 53 = .ok (.baload, 1) := by decide +kernel
theorem dX4_setTolls_54 : decode cX4_setTolls 54 = .ok (.ifCond .eq 7, 3) := by decide +kernel
theorem dX4_setTolls_57 : decode cX4_setTolls 57 = .ok (.iconst 1, 1) := by decide +kernel
theorem dX4_setTolls_58 : decode cX4_setTolls 58 = .ok (.goto 4, 3) := by decide +kernel
theorem dX4_setTolls_61 : decode cX4_setTolls 61 = .ok (.iconst 0, 1) := by decide +kernel
theorem dX4_setTolls_62 : decode cX4_setTolls 62 = .ok (.istore 5, 2) := by decide +kernel
theorem dX4_setTolls_64 : decode cX4_setTolls 64 = .ok (.aload_n 0, 1) := by decide +kernel
theorem dX4_setTolls_65 : decode cX4_setTolls 65 = .ok (.getfield 29, 3) := by decide +kernel
theorem dX4_setTolls_68 : decode cX4_setTolls 68 = .ok (.iload_n 3, 1) := by decide +kernel
theorem dX4_setTolls_69 : decode cX4_setTolls 69 = .ok (.iload 5, 2) := by decide +kernel
theorem dX4_setTolls_71 : decode cX4_setTolls 71 = .ok (.ifCond .eq 9, 3) := by decide +kernel
theorem dX4_setTolls_74 : decode cX4_setTolls 74 = .ok (.ldc2_w 75, 3) := by decide +kernel
theorem dX4_setTolls_77 : decode cX4_setTolls 77 = .ok (.goto 25, 3) := by decide +kernel
theorem dX4_setTolls_80 : decode cX4_setTolls 80 = .ok (.aload_n 0, 1) := by decide +kernel
theorem dX4_setTolls_81 : decode cX4_setTolls 81 = .ok (.getfield 9, 3) := by decide +kernel
theorem dX4_setTolls_84 : decode cX4_setTolls 84 = .ok (.getfield 77, 3) := by decide +kernel
theorem dX4_setTolls_87 : decode cX4_setTolls 87 = .ok (.iload_n 3, 1) := by decide +kernel
theorem dX4_setTolls_88 : decode cX4_setTolls 88 = .ok (.laload, 1) := by decide +kernel
theorem dX4_setTolls_89 : decode cX4_setTolls 89 = .ok (.iload 4, 2) := by decide +kernel
theorem dX4_setTolls_91 : decode cX4_setTolls 91 = .ok (.ifCond .eq 9, 3) := by decide +kernel
theorem dX4_setTolls_94 : decode cX4_setTolls 94 = .ok (.ldc2_w 80, 3) := by decide +kernel
theorem dX4_setTolls_97 : decode cX4_setTolls 97 = .ok (.goto 4, 3) := by decide +kernel
theorem dX4_setTolls_100 : decode cX4_setTolls 100 = .ok (.lconst 0, 1) := by decide +kernel
theorem dX4_setTolls_101 : decode cX4_setTolls 101 = .ok (.ladd, 1) := by decide +kernel
theorem dX4_setTolls_102 : decode cX4_setTolls 102 = .ok (.lastore, 1) := by decide +kernel
theorem dX4_setTolls_103 : decode cX4_setTolls 103 = .ok (.iinc 3 1, 3) := by decide +kernel
theorem dX4_setTolls_106 : decode cX4_setTolls 106 = .ok (.goto (-104), 3) := by decide +kernel
theorem dX4_setTolls_109 : decode cX4_setTolls 109 = .ok (.iconst 0, 1) := by decide +kernel
theorem dX4_setTolls_110 : decode cX4_setTolls 110 = .ok (.istore_n 3, 1) := by decide +kernel
theorem dX4_setTolls_111 : decode cX4_setTolls 111 = .ok (.iload_n 3, 1) := by decide +kernel
theorem dX4_setTolls_112 : decode cX4_setTolls 112 = .ok (.aload_n 0, 1) := by decide +kernel
theorem dX4_setTolls_113 : decode cX4_setTolls 113 = .ok (.getfield 9, 3) := by decide +kernel
theorem dX4_setTolls_116 : decode cX4_setTolls 116 = .ok (.getfield 19, 3) := by decide +kernel
theorem dX4_setTolls_119 : decode cX4_setTolls 119 = .ok (.if_icmp .ge 26, 3) := by decide +kernel
theorem dX4_setTolls_122 : decode cX4_setTolls 122 = .ok (.aload_n 0, 1) := by decide +kernel
theorem dX4_setTolls_123 : decode cX4_setTolls 123 = .ok (.getfield 9, 3) := by decide +kernel
theorem dX4_setTolls_126 : decode cX4_setTolls 126 = .ok (.iload_n 3, 1) := by decide +kernel
theorem dX4_setTolls_127 : decode cX4_setTolls 127 = .ok (.iload_n 1, 1) := by decide +kernel
theorem dX4_setTolls_128 : decode cX4_setTolls 128 = .ok (.invokevirtual 64, 3) := by decide +kernel
theorem dX4_setTolls_131 : decode cX4_setTolls 131 = .ok (.ifCond .eq 8, 3) := by decide +kernel
theorem dX4_setTolls_134 : decode cX4_setTolls 134 = .ok (.aload_n 0, 1) := by decide +kernel
theorem dX4_setTolls_135 : decode cX4_setTolls 135 = .ok (.iload_n 3, 1) := by decide +kernel
theorem dX4_setTolls_136 : decode cX4_setTolls 136 = .ok (.invokevirtual 82, 3) := by decide +kernel
theorem dX4_setTolls_139 : decode cX4_setTolls 139 = .ok (.iinc 3 1, 3) := by decide +kernel
theorem dX4_setTolls_142 : decode cX4_setTolls 142 = .ok (.goto (-31), 3) := by decide +kernel
theorem dX4_setTolls_145 : decode cX4_setTolls 145 = .ok (.return_, 1) := by decide +kernel
set_option maxRecDepth 20000 in
theorem ggX4_raiseTollsBeside_X1_layerOf : GoodIn wsX4_raiseTollsBeside wsX1_layerOf := goodIn_r _ [10, 11, 26, 27, 28, 29, 30, 31, 32, 33, 34, 35] (by decide +kernel) (by decide +kernel)
set_option maxRecDepth 20000 in
theorem gX4_raiseTollsBeside_X1_layerOf : GoodIn wsX4_raiseTollsBeside (wsV RX4 90 RX1 yX1_layerOf wsX1_layerOf) := goodIn_app (goodIn_of _ (by decide +kernel)) ggX4_raiseTollsBeside_X1_layerOf
set_option maxRecDepth 20000 in
theorem ggX4_raiseTollsBeside_X1_neighbour : GoodIn wsX4_raiseTollsBeside wsX1_neighbour := goodIn_r _ [15, 11, 16, 17, 26, 27, 28, 29, 30, 31, 32, 33, 34, 35] (by decide +kernel) (by decide +kernel)
set_option maxRecDepth 20000 in
theorem gX4_raiseTollsBeside_X1_neighbour : GoodIn wsX4_raiseTollsBeside (wsV RX4 94 RX1 yX1_neighbour wsX1_neighbour) := goodIn_app (goodIn_of _ (by decide +kernel)) ggX4_raiseTollsBeside_X1_neighbour
theorem dX4_raiseTollsBeside_0 : decode cX4_raiseTollsBeside 0 = .ok (.aload_n 0, 1) := by decide +kernel
theorem dX4_raiseTollsBeside_1 : decode cX4_raiseTollsBeside 1 = .ok (.getfield 15, 3) := by decide +kernel
theorem dX4_raiseTollsBeside_4 : decode cX4_raiseTollsBeside 4 = .ok (.getfield 85, 3) := by decide +kernel
theorem dX4_raiseTollsBeside_7 : decode cX4_raiseTollsBeside 7 = .ok (.aload_n 0, 1) := by decide +kernel
theorem dX4_raiseTollsBeside_8 : decode cX4_raiseTollsBeside 8 = .ok (.getfield 9, 3) := by decide +kernel
theorem dX4_raiseTollsBeside_11 : decode cX4_raiseTollsBeside 11 = .ok (.iload_n 1, 1) := by decide +kernel
theorem dX4_raiseTollsBeside_12 : decode cX4_raiseTollsBeside 12 = .ok (.invokevirtual 90, 3) := by decide +kernel
theorem dX4_raiseTollsBeside_15 : decode cX4_raiseTollsBeside 15 = .ok (.iaload, 1) := by decide +kernel
theorem dX4_raiseTollsBeside_16 : decode cX4_raiseTollsBeside 16 = .ok (.istore_n 2, 1) := by decide +kernel
theorem dX4_raiseTollsBeside_17 : decode cX4_raiseTollsBeside 17 = .ok (.iconst 1, 1) := by decide +kernel
theorem dX4_raiseTollsBeside_18 : decode cX4_raiseTollsBeside 18 = .ok (.istore_n 3, 1) := by decide +kernel
theorem dX4_raiseTollsBeside_19 : decode cX4_raiseTollsBeside 19 = .ok (.iload_n 3, 1) := by decide +kernel
theorem dX4_raiseTollsBeside_20 : decode cX4_raiseTollsBeside 20 = .ok (.iconst 4, 1) := by decide +kernel
theorem dX4_raiseTollsBeside_21 : decode cX4_raiseTollsBeside 21 = .ok (.if_icmp .gt 56, 3) := by decide +kernel
theorem dX4_raiseTollsBeside_24 : decode cX4_raiseTollsBeside 24 = .ok (.iload_n 2, 1) := by decide +kernel
theorem dX4_raiseTollsBeside_25 : decode cX4_raiseTollsBeside 25 = .ok (.ifCond .le 52, 3) := by decide +kernel
theorem dX4_raiseTollsBeside_28 : decode cX4_raiseTollsBeside 28 = .ok (.aload_n 0, 1) := by decide +kernel
theorem dX4_raiseTollsBeside_29 : decode cX4_raiseTollsBeside 29 = .ok (.getfield 9, 3) := by decide +kernel
theorem dX4_raiseTollsBeside_32 : decode cX4_raiseTollsBeside 32 = .ok (.iload_n 1, 1) := by decide +kernel
theorem dX4_raiseTollsBeside_33 : decode cX4_raiseTollsBeside 33 = .ok (.iload_n 3, 1) := by decide +kernel
theorem dX4_raiseTollsBeside_34 : decode cX4_raiseTollsBeside 34 = .ok (.invokevirtual 94, 3) := by decide +kernel
theorem dX4_raiseTollsBeside_37 : decode cX4_raiseTollsBeside 37 = .ok (.istore 4, 2) := by decide +kernel
theorem dX4_raiseTollsBeside_39 : decode cX4_raiseTollsBeside 39 = .ok (.iload 4, 2) := by decide +kernel
theorem dX4_raiseTollsBeside_41 : decode cX4_raiseTollsBeside 41 = .ok (.iconst (-1), 1) := by decide +kernel
theorem dX4_raiseTollsBeside_42 : decode cX4_raiseTollsBeside 42 = .ok (.if_icmp .eq 29, 3) := by decide +kernel
theorem dX4_raiseTollsBeside_45 : decode cX4_raiseTollsBeside 45 = .ok (.aload_n 0, 1) := by decide +kernel
theorem dX4_raiseTollsBeside_46 : decode cX4_raiseTollsBeside 46 = .ok (.getfield 29, 3) := by decide +kernel
theorem dX4_raiseTollsBeside_49 : decode cX4_raiseTollsBeside 49 = .ok (.iload 4, 2) := by decide +kernel
theorem dX4_raiseTollsBeside_51 : decode cX4_raiseTollsBeside 51 = .ok (.laload, 1) := by decide +kernel
theorem dX4_raiseTollsBeside_52 : decode cX4_raiseTollsBeside 52 = .ok (.ldc2_w 75, 3) := by decide +kernel
theorem dX4_raiseTollsBeside_55 : decode cX4_raiseTollsBeside 55 = .ok (.lcmp, 1) := by decide +kernel
theorem dX4_raiseTollsBeside_56 : decode cX4_raiseTollsBeside 56 = .ok (.ifCond .eq 15, 3) := by decide +kernel
theorem dX4_raiseTollsBeside_59 : decode cX4_raiseTollsBeside 59 = .ok (.aload_n 0, 1) := by decide +kernel
theorem dX4_raiseTollsBeside_60 : decode cX4_raiseTollsBeside 60 = .ok (.getfield 29, 3) := by decide +kernel
theorem dX4_raiseTollsBeside_63 : decode cX4_raiseTollsBeside 63 = .ok (.iload 4, 2) := by decide +kernel
theorem dX4_raiseTollsBeside_65 : decode cX4_raiseTollsBeside 65 = .ok (.dup2, 1) := by decide +kernel
theorem dX4_raiseTollsBeside_66 : decode cX4_raiseTollsBeside 66 = .ok (.laload, 1) := by decide +kernel
theorem dX4_raiseTollsBeside_67 : decode cX4_raiseTollsBeside 67 = .ok (.iload_n 2, 1) := by decide +kernel
theorem dX4_raiseTollsBeside_68 : decode cX4_raiseTollsBeside 68 = .ok (.i2l, 1) := by decide +kernel
theorem dX4_raiseTollsBeside_69 : decode cX4_raiseTollsBeside 69 = .ok (.ladd, 1) := by decide +kernel
theorem dX4_raiseTollsBeside_70 : decode cX4_raiseTollsBeside 70 = .ok (.lastore, 1) := by decide +kernel
theorem dX4_raiseTollsBeside_71 : decode cX4_raiseTollsBeside 71 = .ok (.iinc 3 1, 3) := by decide +kernel
theorem dX4_raiseTollsBeside_74 : decode cX4_raiseTollsBeside 74 = .ok (.goto (-55), 3) := by decide +kernel
theorem dX4_raiseTollsBeside_77 : decode cX4_raiseTollsBeside 77 = .ok (.return_, 1) := by decide +kernel
set_option maxRecDepth 20000 in
theorem ggX4_startFrom_J7_fill_d0a16 : GoodIn wsX4_startFrom wsJ7_fill_d0a16 := goodIn_r _ [9] (by decide +kernel) (by decide +kernel)
set_option maxRecDepth 20000 in
theorem gX4_startFrom_J7_fill_d0a16 : GoodIn wsX4_startFrom (va_wsS RX4 98 yJ7_fill_d0a16 wsJ7_fill_d0a16) := goodIn_app (goodIn_of _ (by decide +kernel)) ggX4_startFrom_J7_fill_d0a16
set_option maxRecDepth 20000 in
theorem ggX4_startFrom_X0_clear : GoodIn wsX4_startFrom wsX0_clear := goodIn_r _ [14, 15, 16, 17, 18, 8, 19, 37, 38, 39, 40] (by decide +kernel) (by decide +kernel)
set_option maxRecDepth 20000 in
theorem gX4_startFrom_X0_clear : GoodIn wsX4_startFrom (wsV RX4 104 RX0 yX0_clear wsX0_clear) := goodIn_app (goodIn_of _ (by decide +kernel)) ggX4_startFrom_X0_clear
set_option maxRecDepth 20000 in
theorem ggX4_startFrom_X0_put : GoodIn wsX4_startFrom wsX0_put := goodIn_r _ [23, 16, 15, 24, 25, 26, 27, 28, 13, 29, 37, 38, 39, 40] (by decide +kernel) (by decide +kernel)
set_option maxRecDepth 20000 in
theorem gX4_startFrom_X0_put : GoodIn wsX4_startFrom (wsV RX4 113 RX0 yX0_put wsX0_put) := goodIn_app (goodIn_of _ (by decide +kernel)) ggX4_startFrom_X0_put
theorem dX4_startFrom_0 : decode cX4_startFrom 0 = .ok (.aload_n 0, 1) := by decide +kernel
theorem dX4_startFrom_1 : decode cX4_startFrom 1 = .ok (.getfield 25, 3) := by decide +kernel
theorem dX4_startFrom_4 : decode cX4_startFrom 4 = .ok (.ldc2_w 75, 3) := by decide +kernel
theorem dX4_startFrom_7 : decode cX4_startFrom 7 = .ok (.invokestatic 98, 3) := by decide +kernel
theorem dX4_startFrom_10 : decode cX4_startFrom 10 = .ok (.aload_n 0, 1) := by decide +kernel
theorem dX4_startFrom_11 : decode cX4_startFrom 11 = .ok (.getfield 37, 3) := by decide +kernel
theorem dX4_startFrom_14 : decode cX4_startFrom 14 = .ok (.invokevirtual 104, 3) := by decide +kernel
theorem dX4_startFrom_17 : decode cX4_startFrom 17 = .ok (.iconst 0, 1) := by decide +kernel
theorem dX4_startFrom_18 : decode cX4_startFrom 18 = .ok (.istore_n 2, 1) := by decide +kernel
theorem dX4_startFrom_19 : decode cX4_startFrom 19 = .ok (.iload_n 2, 1) := by decide +kernel
theorem dX4_startFrom_20 : decode cX4_startFrom 20 = .ok (.aload_n 1, 1) := by decide +kernel
theorem dX4_startFrom_21 : decode cX4_startFrom 21 = .ok (.getfield 107, 3) := by decide +kernel
theorem dX4_startFrom_24 : decode cX4_startFrom 24 = .ok (.if_icmp .ge 34, 3) := by decide +kernel
theorem dX4_startFrom_27 : decode cX4_startFrom 27 = .ok (.aload_n 0, 1) := by decide +kernel
theorem dX4_startFrom_28 : decode cX4_startFrom 28 = .ok (.getfield 25, 3) := by decide +kernel
theorem dX4_startFrom_31 : decode cX4_startFrom 31 = .ok (.aload_n 1, 1) := by decide +kernel
theorem dX4_startFrom_32 : decode cX4_startFrom 32 = .ok (.getfield 110, 3) := by decide +kernel
theorem dX4_startFrom_35 : decode cX4_startFrom 35 = .ok (.iload_n 2, 1) := by decide +kernel
theorem dX4_startFrom_36 : decode cX4_startFrom 36 = .ok (.iaload, 1) := by decide +kernel
theorem dX4_startFrom_37 : decode cX4_startFrom 37 = .ok (.lconst 0, 1) := by decide +kernel
theorem dX4_startFrom_38 : decode cX4_startFrom 38 = .ok (.lastore, 1) := by decide +kernel
theorem dX4_startFrom_39 : decode cX4_startFrom 39 = .ok (.aload_n 0, 1) := by decide +kernel
theorem dX4_startFrom_40 : decode cX4_startFrom 40 = .ok (.getfield 37, 3) := by decide +kernel
theorem dX4_startFrom_43 : decode cX4_startFrom 43 = .ok (.aload_n 1, 1) := by decide +kernel
theorem dX4_startFrom_44 : decode cX4_startFrom 44 = .ok (.getfield 110, 3) := by decide +kernel
theorem dX4_startFrom_47 : decode cX4_startFrom 47 = .ok (.iload_n 2, 1) := by decide +kernel
theorem dX4_startFrom_48 : decode cX4_startFrom 48 = .ok (.iaload, 1) := by decide +kernel
theorem dX4_startFrom_49 : decode cX4_startFrom 49 = .ok (.invokevirtual 113, 3) := by decide +kernel
theorem dX4_startFrom_52 : decode cX4_startFrom 52 = .ok (.iinc 2 1, 3) := by decide +kernel
theorem dX4_startFrom_55 : decode cX4_startFrom 55 = .ok (.goto (-36), 3) := by decide +kernel
theorem dX4_startFrom_58 : decode cX4_startFrom 58 = .ok (.return_, 1) := by decide +kernel
set_option maxRecDepth 20000 in
theorem ggX4_spreadFrom_X1_layerOf : GoodIn wsX4_spreadFrom wsX1_layerOf := goodIn_r _ [11, 12, 44, 45, 46, 47, 48, 49, 50, 51, 52, 53] (by decide +kernel) (by decide +kernel)
set_option maxRecDepth 20000 in
theorem gX4_spreadFrom_X1_layerOf : GoodIn wsX4_spreadFrom (wsV RX4 90 RX1 yX1_layerOf wsX1_layerOf) := goodIn_app (goodIn_of _ (by decide +kernel)) ggX4_spreadFrom_X1_layerOf
set_option maxRecDepth 20000 in
theorem ggX4_spreadFrom_X1_neighbour : GoodIn wsX4_spreadFrom wsX1_neighbour := goodIn_r _ [16, 12, 17, 18, 44, 45, 46, 47, 48, 49, 50, 51, 52, 53] (by decide +kernel) (by decide +kernel)
set_option maxRecDepth 20000 in
theorem gX4_spreadFrom_X1_neighbour : GoodIn wsX4_spreadFrom (wsV RX4 94 RX1 yX1_neighbour wsX1_neighbour) := goodIn_app (goodIn_of _ (by decide +kernel)) ggX4_spreadFrom_X1_neighbour
set_option maxRecDepth 20000 in
theorem ggX4_spreadFrom_X3_ofMove : GoodIn wsX4_spreadFrom wsX3_ofMove := goodIn_r _ [23, 24, 25, 54, 55, 56] (by decide +kernel) (by decide +kernel)
set_option maxRecDepth 20000 in
theorem gX4_spreadFrom_X3_ofMove : GoodIn wsX4_spreadFrom (wsV RX4 116 RX3 yX3_ofMove wsX3_ofMove) := goodIn_app (goodIn_of _ (by decide +kernel)) ggX4_spreadFrom_X3_ofMove
set_option maxRecDepth 20000 in
theorem ggX4_spreadFrom_X0_put : GoodIn wsX4_spreadFrom wsX0_put := goodIn_r _ [30, 31, 32, 33, 34, 35, 36, 37, 29, 38, 57, 58, 59, 60] (by decide +kernel) (by decide +kernel)
set_option maxRecDepth 20000 in
theorem gX4_spreadFrom_X0_put : GoodIn wsX4_spreadFrom (wsV RX4 113 RX0 yX0_put wsX0_put) := goodIn_app (goodIn_of _ (by decide +kernel)) ggX4_spreadFrom_X0_put
theorem dX4_spreadFrom_0 : decode cX4_spreadFrom 0 = .ok (.aload_n 0, 1) := by decide +kernel
theorem dX4_spreadFrom_1 : decode cX4_spreadFrom 1 = .ok (.getfield 9, 3) := by decide +kernel
theorem dX4_spreadFrom_4 : decode cX4_spreadFrom 4 = .ok (.iload_n 1, 1) := by decide +kernel
theorem dX4_spreadFrom_5 : decode cX4_spreadFrom 5 = .ok (.invokevirtual 90, 3) := by decide +kernel
theorem dX4_spreadFrom_8 : decode cX4_spreadFrom 8 = .ok (.istore_n 2, 1) := by decide +kernel
theorem dX4_spreadFrom_9 : decode cX4_spreadFrom 9 = .ok (.iconst 0, 1) := by decide +kernel
theorem dX4_spreadFrom_10 : decode cX4_spreadFrom 10 = .ok (.istore_n 3, 1) := by decide +kernel
theorem dX4_spreadFrom_11 : decode cX4_spreadFrom 11 = .ok (.iload_n 3, 1) := by decide +kernel
theorem dX4_spreadFrom_12 : decode cX4_spreadFrom 12 = .ok (.iconst 5, 1) := by decide +kernel
theorem dX4_spreadFrom_13 : decode cX4_spreadFrom 13 = .ok (.if_icmp .gt 115, 3) := by decide +kernel
theorem dX4_spreadFrom_16 : decode cX4_spreadFrom 16 = .ok (.aload_n 0, 1) := by decide +kernel
theorem dX4_spreadFrom_17 : decode cX4_spreadFrom 17 = .ok (.getfield 9, 3) := by decide +kernel
theorem dX4_spreadFrom_20 : decode cX4_spreadFrom 20 = .ok (.iload_n 1, 1) := by decide +kernel
theorem dX4_spreadFrom_21 : decode cX4_spreadFrom 21 = .ok (.iload_n 3, 1) := by decide +kernel
theorem dX4_spreadFrom_22 : decode cX4_spreadFrom 22 = .ok (.invokevirtual 94, 3) := by decide +kernel
theorem dX4_spreadFrom_25 : decode cX4_spreadFrom 25 = .ok (.istore 4, 2) := by decide +kernel
theorem dX4_spreadFrom_27 : decode cX4_spreadFrom 27 = .ok (.iload 4, 2) := by decide +kernel
theorem dX4_spreadFrom_29 : decode cX4_spreadFrom 29 = .ok (.iconst (-1), 1) := by decide +kernel
theorem dX4_spreadFrom_30 : decode cX4_spreadFrom 30 = .ok (.if_icmp .eq 92, 3) := by decide +kernel
theorem dX4_spreadFrom_33 : decode cX4_spreadFrom 33 = .ok (.aload_n 0, 1) := by decide +kernel
theorem dX4_spreadFrom_34 : decode cX4_spreadFrom 34 = .ok (.getfield 29, 3) := by decide +kernel
theorem dX4_spreadFrom_37 : decode cX4_spreadFrom 37 = .ok (.iload 4, 2) := by decide +kernel
theorem dX4_spreadFrom_39 : decode cX4_spreadFrom 39 = .ok (.laload, 1) := by decide +kernel
theorem dX4_spreadFrom_40 : decode cX4_spreadFrom 40 = .ok (.ldc2_w 75, 3) := by decide +kernel
theorem dX4_spreadFrom_43 : decode cX4_spreadFrom 43 = .ok (.lcmp, 1) := by decide +kernel
theorem dX4_spreadFrom_44 : decode cX4_spreadFrom 44 = .ok (.ifCond .ne 6, 3) := by decide +kernel
theorem dX4_spreadFrom_47 : decode cX4_spreadFrom 47 = .ok (.goto 75, 3) := by decide +kernel
theorem dX4_spreadFrom_50 : decode cX4_spreadFrom 50 = .ok (.aload_n 0, 1) := by decide +kernel
theorem dX4_spreadFrom_51 : decode cX4_spreadFrom 51 = .ok (.getfield 25, 3) := by decide +kernel
theorem dX4_spreadFrom_54 : decode cX4_spreadFrom 54 = .ok (.iload_n 1, 1) := by decide +kernel
theorem dX4_spreadFrom_55 : decode cX4_spreadFrom 55 = .ok (.laload, 1) := by decide +kernel
theorem dX4_spreadFrom_56 : decode cX4_spreadFrom 56 = .ok (.aload_n 0, 1) := by decide +kernel
theorem dX4_spreadFrom_57 : decode cX4_spreadFrom 57 = .ok (.getfield 15, 3) := by decide +kernel
theorem dX4_spreadFrom_60 : decode cX4_spreadFrom 60 = .ok (.iload_n 2, 1) := by decide +kernel
theorem dX4_spreadFrom_61 : decode cX4_spreadFrom 61 = .ok (.iload_n 3, 1) := by decide +kernel
theorem dX4_spreadFrom_62 : decode cX4_spreadFrom 62 = .ok (.invokevirtual 116, 3) := by decide +kernel
theorem dX4_spreadFrom_65 : decode cX4_spreadFrom 65 = .ok (.i2l, 1) := by decide +kernel
theorem dX4_spreadFrom_66 : decode cX4_spreadFrom 66 = .ok (.ladd, 1) := by decide +kernel
theorem dX4_spreadFrom_67 : decode cX4_spreadFrom 67 = .ok (.aload_n 0, 1) := by decide +kernel
theorem dX4_spreadFrom_68 : decode cX4_spreadFrom 68 = .ok (.getfield 29, 3) := by decide +kernel
theorem dX4_spreadFrom_71 : decode cX4_spreadFrom 71 = .ok (.iload 4, 2) := by decide +kernel
theorem dX4_spreadFrom_73 : decode cX4_spreadFrom 73 = .ok (.laload, 1) := by decide +kernel
theorem dX4_spreadFrom_74 : decode cX4_spreadFrom 74 = .ok (.ladd, 1) := by decide +kernel
theorem dX4_spreadFrom_75 : decode cX4_spreadFrom 75 = .ok (.lstore 5, 2) := by decide +kernel
theorem dX4_spreadFrom_77 : decode cX4_spreadFrom 77 = .ok (.aload_n 0, 1) := by decide +kernel
theorem dX4_spreadFrom_78 : decode cX4_spreadFrom 78 = .ok (.getfield 25, 3) := by decide +kernel
theorem dX4_spreadFrom_81 : decode cX4_spreadFrom 81 = .ok (.iload 4, 2) := by decide +kernel
theorem dX4_spreadFrom_83 : decode cX4_spreadFrom 83 = .ok (.laload, 1) := by decide +kernel
theorem dX4_spreadFrom_84 : decode cX4_spreadFrom 84 = .ok (.ldc2_w 75, 3) := by decide +kernel
theorem dX4_spreadFrom_87 : decode cX4_spreadFrom 87 = .ok (.lcmp, 1) := by decide +kernel
theorem dX4_spreadFrom_88 : decode cX4_spreadFrom 88 = .ok (.ifCond .eq 16, 3) := by decide +kernel
theorem dX4_spreadFrom_91 : decode cX4_spreadFrom 91 = .ok (.lload 5, 2) := by decide +kernel
theorem dX4_spreadFrom_93 : decode cX4_spreadFrom 93 = .ok (.aload_n 0, 1) := by decide +kernel
theorem dX4_spreadFrom_94 : decode cX4_spreadFrom 94 = .ok (.getfield 25, 3) := by decide +kernel
theorem dX4_spreadFrom_97 : decode cX4_spreadFrom 97 = .ok (.iload 4, 2) := by decide +kernel
theorem dX4_spreadFrom_99 : decode cX4_spreadFrom 99 = .ok (.laload, 1) := by decide +kernel
theorem dX4_spreadFrom_100 : decode cX4_spreadFrom 100 = .ok (.lcmp, 1) := by decide +kernel
theorem dX4_spreadFrom_101 : decode cX4_spreadFrom 101 = .ok (.ifCond .ge 21, 3) := by decide +kernel
theorem dX4_spreadFrom_104 : decode cX4_spreadFrom 104 = .ok (.aload_n 0, 1) := by decide +kernel
theorem dX4_spreadFrom_105 : decode cX4_spreadFrom 105 = .ok (.getfield 25, 3) := by decide +kernel
theorem dX4_spreadFrom_108 : decode cX4_spreadFrom 108 = .ok (.iload 4, 2) := by decide +kernel
theorem dX4_spreadFrom_110 : decode cX4_spreadFrom 110 = .ok (.lload 5, 2) := by decide +kernel
theorem dX4_spreadFrom_112 : decode cX4_spreadFrom 112 = .ok (.lastore, 1) := by decide +kernel
theorem dX4_spreadFrom_113 : decode cX4_spreadFrom 113 = .ok (.aload_n 0, 1) := by decide +kernel
theorem dX4_spreadFrom_114 : decode cX4_spreadFrom 114 = .ok (.getfield 37, 3) := by decide +kernel
theorem dX4_spreadFrom_117 : decode cX4_spreadFrom 117 = .ok (.iload 4, 2) := by decide +kernel
theorem dX4_spreadFrom_119 : decode cX4_spreadFrom 119 = .ok (.invokevirtual 113, 3) := by decide +kernel
theorem dX4_spreadFrom_122 : decode cX4_spreadFrom 122 = .ok (.iinc 3 1, 3) := by decide +kernel
theorem dX4_spreadFrom_125 : decode cX4_spreadFrom 125 = .ok (.goto (-114), 3) := by decide +kernel
theorem dX4_spreadFrom_128 : decode cX4_spreadFrom 128 = .ok (.return_, 1) := by decide +kernel
theorem dX4_nearestPin_0 : decode cX4_nearestPin 0 = .ok (.iconst (-1), 1) := by decide +kernel
theorem dX4_nearestPin_1 : decode cX4_nearestPin 1 = .ok (.istore_n 2, 1) := by decide +kernel
theorem dX4_nearestPin_2 : decode cX4_nearestPin 2 = .ok (.iconst 0, 1) := by decide +kernel
theorem dX4_nearestPin_3 : decode cX4_nearestPin 3 = .ok (.istore_n 3, 1) := by decide +kernel
theorem dX4_nearestPin_4 : decode cX4_nearestPin 4 = .ok (.iload_n 3, 1) := by decide +kernel
theorem dX4_nearestPin_5 : decode cX4_nearestPin 5 = .ok (.aload_n 1, 1) := by decide +kernel
theorem dX4_nearestPin_6 : decode cX4_nearestPin 6 = .ok (.getfield 119, 3) := by decide +kernel
theorem dX4_nearestPin_9 : decode cX4_nearestPin 9 = .ok (.if_icmp .ge 54, 3) := by decide +kernel
theorem dX4_nearestPin_12 : decode cX4_nearestPin 12 = .ok (.aload_n 1, 1) := by decide +kernel
theorem dX4_nearestPin_13 : decode cX4_nearestPin 13 = .ok (.getfield 124, 3) := by decide +kernel
theorem dX4_nearestPin_16 : decode cX4_nearestPin 16 = .ok (.iload_n 3, 1) := by decide +kernel
theorem dX4_nearestPin_17 : decode cX4_nearestPin 17 = .ok (.iaload, 1) := by decide +kernel
theorem dX4_nearestPin_18 : decode cX4_nearestPin 18 = .ok (.istore 4, 2) := by decide +kernel
theorem dX4_nearestPin_20 : decode cX4_nearestPin 20 = .ok (.aload_n 0, 1) := by decide +kernel
theorem dX4_nearestPin_21 : decode cX4_nearestPin 21 = .ok (.getfield 25, 3) := by decide +kernel
theorem dX4_nearestPin_24 : decode cX4_nearestPin 24 = .ok (.iload 4, 2) := by decide +kernel
theorem dX4_nearestPin_26 : decode cX4_nearestPin 26 = .ok (.laload, 1) := by decide +kernel
theorem dX4_nearestPin_27 : decode cX4_nearestPin 27 = .ok (.lconst 0, 1) := by decide +kernel
theorem dX4_nearestPin_28 : decode cX4_nearestPin 28 = .ok (.lcmp, 1) := by decide +kernel
theorem dX4_nearestPin_29 : decode cX4_nearestPin 29 = .ok (.ifCond .le 28, 3) := by decide +kernel
theorem dX4_nearestPin_32 : decode cX4_nearestPin 32 = .ok (.iload_n 2, 1) := by decide +kernel
theorem dX4_nearestPin_33 : decode cX4_nearestPin 33 = .ok (.iconst (-1), 1) := by decide +kernel
theorem dX4_nearestPin_34 : decode cX4_nearestPin 34 = .ok (.if_icmp .eq 20, 3) := by decide +kernel
theorem dX4_nearestPin_37 : decode cX4_nearestPin 37 = .ok (.aload_n 0, 1) := by decide +kernel
theorem dX4_nearestPin_38 : decode cX4_nearestPin 38 = .ok (.getfield 25, 3) := by decide +kernel
theorem dX4_nearestPin_41 : decode cX4_nearestPin 41 = .ok (.iload 4, 2) := by decide +kernel
theorem dX4_nearestPin_43 : decode cX4_nearestPin 43 = .ok (.laload, 1) := by decide +kernel
theorem dX4_nearestPin_44 : decode cX4_nearestPin 44 = .ok (.aload_n 0, 1) := by decide +kernel
theorem dX4_nearestPin_45 : decode cX4_nearestPin 45 = .ok (.getfield 25, 3) := by decide +kernel
theorem dX4_nearestPin_48 : decode cX4_nearestPin 48 = .ok (.iload_n 2, 1) := by decide +kernel
theorem dX4_nearestPin_49 : decode cX4_nearestPin 49 = .ok (.laload, 1) := by decide +kernel
theorem dX4_nearestPin_50 : decode cX4_nearestPin 50 = .ok (.lcmp, 1) := by decide +kernel
theorem dX4_nearestPin_51 : decode cX4_nearestPin 51 = .ok (.ifCond .ge 6, 3) := by decide +kernel
theorem dX4_nearestPin_54 : decode cX4_nearestPin 54 = .ok (.iload 4, 2) := by decide +kernel
theorem dX4_nearestPin_56 : decode cX4_nearestPin 56 = .ok (.istore_n 2, 1) := by decide +kernel
theorem dX4_nearestPin_57 : decode cX4_nearestPin 57 = .ok (.iinc 3 1, 3) := by decide +kernel
theorem dX4_nearestPin_60 : decode cX4_nearestPin 60 = .ok (.goto (-56), 3) := by decide +kernel
theorem dX4_nearestPin_63 : decode cX4_nearestPin 63 = .ok (.iload_n 2, 1) := by decide +kernel
theorem dX4_nearestPin_64 : decode cX4_nearestPin 64 = .ok (.ireturn, 1) := by decide +kernel
set_option maxRecDepth 20000 in
theorem ggX4_stepBack_X1_layerOf : GoodIn wsX4_stepBack wsX1_layerOf := goodIn_r _ [10, 11, 30, 31, 32, 33, 34, 35, 36, 37, 38, 39] (by decide +kernel) (by decide +kernel)
set_option maxRecDepth 20000 in
theorem gX4_stepBack_X1_layerOf : GoodIn wsX4_stepBack (wsV RX4 90 RX1 yX1_layerOf wsX1_layerOf) := goodIn_app (goodIn_of _ (by decide +kernel)) ggX4_stepBack_X1_layerOf
set_option maxRecDepth 20000 in
theorem ggX4_stepBack_X1_neighbour : GoodIn wsX4_stepBack wsX1_neighbour := goodIn_r _ [15, 11, 16, 17, 30, 31, 32, 33, 34, 35, 36, 37, 38, 39] (by decide +kernel) (by decide +kernel)
set_option maxRecDepth 20000 in
theorem gX4_stepBack_X1_neighbour : GoodIn wsX4_stepBack (wsV RX4 94 RX1 yX1_neighbour wsX1_neighbour) := goodIn_app (goodIn_of _ (by decide +kernel)) ggX4_stepBack_X1_neighbour
set_option maxRecDepth 20000 in
theorem ggX4_stepBack_X3_ofMove : GoodIn wsX4_stepBack wsX3_ofMove := goodIn_r _ [22, 23, 24, 40, 41, 42] (by decide +kernel) (by decide +kernel)
set_option maxRecDepth 20000 in
theorem gX4_stepBack_X3_ofMove : GoodIn wsX4_stepBack (wsV RX4 116 RX3 yX3_ofMove wsX3_ofMove) := goodIn_app (goodIn_of _ (by decide +kernel)) ggX4_stepBack_X3_ofMove
theorem dX4_stepBack_0 : decode cX4_stepBack 0 = .ok (.aload_n 0, 1) := by decide +kernel
theorem dX4_stepBack_1 : decode cX4_stepBack 1 = .ok (.getfield 9, 3) := by decide +kernel
theorem dX4_stepBack_4 : decode cX4_stepBack 4 = .ok (.iload_n 1, 1) := by decide +kernel
theorem dX4_stepBack_5 : decode cX4_stepBack 5 = .ok (.invokevirtual 90, 3) := by decide +kernel
theorem dX4_stepBack_8 : decode cX4_stepBack 8 = .ok (.istore_n 2, 1) := by decide +kernel
theorem dX4_stepBack_9 : decode cX4_stepBack 9 = .ok (.iconst 0, 1) := by decide +kernel
theorem dX4_stepBack_10 : decode cX4_stepBack 10 = .ok (.istore_n 3, 1) := by decide +kernel
theorem dX4_stepBack_11 : decode cX4_stepBack 11 = .ok (.iload_n 3, 1) := by decide +kernel
theorem dX4_stepBack_12 : decode cX4_stepBack 12 = .ok (.iconst 5, 1) := by decide +kernel
theorem dX4_stepBack_13 : decode cX4_stepBack 13 = .ok (.if_icmp .gt 81, 3) := by decide +kernel
theorem dX4_stepBack_16 : decode cX4_stepBack 16 = .ok (.aload_n 0, 1) := by decide +kernel
theorem dX4_stepBack_17 : decode cX4_stepBack 17 = .ok (.getfield 9, 3) := by decide +kernel
theorem dX4_stepBack_20 : decode cX4_stepBack 20 = .ok (.iload_n 1, 1) := by decide +kernel
theorem dX4_stepBack_21 : decode cX4_stepBack 21 = .ok (.iload_n 3, 1) := by decide +kernel
theorem dX4_stepBack_22 : decode cX4_stepBack 22 = .ok (.invokevirtual 94, 3) := by decide +kernel
theorem dX4_stepBack_25 : decode cX4_stepBack 25 = .ok (.istore 4, 2) := by decide +kernel
theorem dX4_stepBack_27 : decode cX4_stepBack 27 = .ok (.iload 4, 2) := by decide +kernel
theorem dX4_stepBack_29 : decode cX4_stepBack 29 = .ok (.iconst (-1), 1) := by decide +kernel
theorem dX4_stepBack_30 : decode cX4_stepBack 30 = .ok (.if_icmp .eq 58, 3) := by decide +kernel
theorem dX4_stepBack_33 : decode cX4_stepBack 33 = .ok (.aload_n 0, 1) := by decide +kernel
theorem dX4_stepBack_34 : decode cX4_stepBack 34 = .ok (.getfield 25, 3) := by decide +kernel
theorem dX4_stepBack_37 : decode cX4_stepBack 37 = .ok (.iload 4, 2) := by decide +kernel
theorem dX4_stepBack_39 : decode cX4_stepBack 39 = .ok (.laload, 1) := by decide +kernel
theorem dX4_stepBack_40 : decode cX4_stepBack 40 = .ok (.ldc2_w 75, 3) := by decide +kernel
theorem dX4_stepBack_43 : decode cX4_stepBack 43 = .ok (.lcmp, 1) := by decide +kernel
theorem dX4_stepBack_44 : decode cX4_stepBack 44 = .ok (.ifCond .ne 6, 3) := by decide +kernel
theorem dX4_stepBack_47 : decode cX4_stepBack 47 = .ok (.goto 41, 3) := by decide +kernel
theorem dX4_stepBack_50 : decode cX4_stepBack 50 = .ok (.aload_n 0, 1) := by decide +kernel
theorem dX4_stepBack_51 : decode cX4_stepBack 51 = .ok (.getfield 25, 3) := by decide +kernel
theorem dX4_stepBack_54 : decode cX4_stepBack 54 = .ok (.iload 4, 2) := by decide +kernel
theorem dX4_stepBack_56 : decode cX4_stepBack 56 = .ok (.laload, 1) := by decide +kernel
theorem dX4_stepBack_57 : decode cX4_stepBack 57 = .ok (.aload_n 0, 1) := by decide +kernel
theorem dX4_stepBack_58 : decode cX4_stepBack 58 = .ok (.getfield 15, 3) := by decide +kernel
theorem dX4_stepBack_61 : decode cX4_stepBack 61 = .ok (.iload_n 2, 1) := by decide +kernel
theorem dX4_stepBack_62 : decode cX4_stepBack 62 = .ok (.iload_n 3, 1) := by decide +kernel
theorem dX4_stepBack_63 : decode cX4_stepBack 63 = .ok (.invokevirtual 116, 3) := by decide +kernel
theorem dX4_stepBack_66 : decode cX4_stepBack 66 = .ok (.i2l, 1) := by decide +kernel
theorem dX4_stepBack_67 : decode cX4_stepBack 67 = .ok (.ladd, 1) := by decide +kernel
theorem dX4_stepBack_68 : decode cX4_stepBack 68 = .ok (.aload_n 0, 1) := by decide +kernel
theorem dX4_stepBack_69 : decode cX4_stepBack 69 = .ok (.getfield 29, 3) := by decide +kernel
theorem dX4_stepBack_72 : decode cX4_stepBack 72 = .ok (.iload_n 1, 1) := by decide +kernel
theorem dX4_stepBack_73 : decode cX4_stepBack 73 = .ok (.laload, 1) := by decide +kernel
theorem dX4_stepBack_74 : decode cX4_stepBack 74 = .ok (.ladd, 1) := by decide +kernel
theorem dX4_stepBack_75 : decode cX4_stepBack 75 = .ok (.aload_n 0, 1) := by decide +kernel
theorem dX4_stepBack_76 : decode cX4_stepBack 76 = .ok (.getfield 25, 3) := by decide +kernel
theorem dX4_stepBack_79 : decode cX4_stepBack 79 = .ok (.iload_n 1, 1) := by decide +kernel
theorem dX4_stepBack_80 : decode cX4_stepBack 80 = .ok (.laload, 1) := by decide +kernel
theorem dX4_stepBack_81 : decode cX4_stepBack 81 = .ok (.lcmp, 1) := by decide +kernel
theorem dX4_stepBack_82 : decode cX4_stepBack 82 = .ok (.ifCond .ne 6, 3) := by decide +kernel
theorem dX4_stepBack_85 : decode cX4_stepBack 85 = .ok (.iload 4, 2) := by decide +kernel
theorem dX4_stepBack_87 : decode cX4_stepBack 87 = .ok (.ireturn, 1) := by decide +kernel
theorem dX4_stepBack_88 : decode cX4_stepBack 88 = .ok (.iinc 3 1, 3) := by decide +kernel
theorem dX4_stepBack_91 : decode cX4_stepBack 91 = .ok (.goto (-80), 3) := by decide +kernel
theorem dX4_stepBack_94 : decode cX4_stepBack 94 = .ok (.iconst (-1), 1) := by decide +kernel
theorem dX4_stepBack_95 : decode cX4_stepBack 95 = .ok (.ireturn, 1) := by decide +kernel
set_option maxRecDepth 20000 in
theorem ggX4_holdersAround_X1_neighbour : GoodIn wsX4_holdersAround wsX1_neighbour := goodIn_r _ [10, 11, 12, 13, 24, 25, 26, 27, 28, 29, 30, 31, 32, 33] (by decide +kernel) (by decide +kernel)
set_option maxRecDepth 20000 in
theorem gX4_holdersAround_X1_neighbour : GoodIn wsX4_holdersAround (wsV RX4 94 RX1 yX1_neighbour wsX1_neighbour) := goodIn_app (goodIn_of _ (by decide +kernel)) ggX4_holdersAround_X1_neighbour
set_option maxRecDepth 20000 in
theorem ggX4_holdersAround_X1_heldByOther : GoodIn wsX4_holdersAround wsX1_heldByOther := goodIn_r _ [17, 18, 24, 25, 26, 27, 28, 29, 30, 31, 32, 33] (by decide +kernel) (by decide +kernel)
set_option maxRecDepth 20000 in
theorem gX4_holdersAround_X1_heldByOther : GoodIn wsX4_holdersAround (wsV RX4 64 RX1 yX1_heldByOther wsX1_heldByOther) := goodIn_app (goodIn_of _ (by decide +kernel)) ggX4_holdersAround_X1_heldByOther
theorem dX4_holdersAround_0 : decode cX4_holdersAround 0 = .ok (.iconst 0, 1) := by decide +kernel
theorem dX4_holdersAround_1 : decode cX4_holdersAround 1 = .ok (.istore_n 2, 1) := by decide +kernel
theorem dX4_holdersAround_2 : decode cX4_holdersAround 2 = .ok (.iconst 0, 1) := by decide +kernel
theorem dX4_holdersAround_3 : decode cX4_holdersAround 3 = .ok (.istore_n 3, 1) := by decide +kernel
theorem dX4_holdersAround_4 : decode cX4_holdersAround 4 = .ok (.iload_n 3, 1) := by decide +kernel
theorem dX4_holdersAround_5 : decode cX4_holdersAround 5 = .ok (.aload_n 0, 1) := by decide +kernel
theorem dX4_holdersAround_6 : decode cX4_holdersAround 6 = .ok (.getfield 9, 3) := by decide +kernel
theorem dX4_holdersAround_9 : decode cX4_holdersAround 9 = .ok (.getfield 19, 3) := by decide +kernel
theorem dX4_holdersAround_12 : decode cX4_holdersAround 12 = .ok (.if_icmp .ge 83, 3) := by decide +kernel
theorem dX4_holdersAround_15 : decode cX4_holdersAround 15 = .ok (.iconst 0, 1) := by decide +kernel
theorem dX4_holdersAround_16 : decode cX4_holdersAround 16 = .ok (.istore 4, 2) := by decide +kernel
theorem dX4_holdersAround_18 : decode cX4_holdersAround 18 = .ok (.iload 4, 2) := by decide +kernel
theorem dX4_holdersAround_20 : decode cX4_holdersAround 20 = .ok (.iconst 5, 1) := by decide +kernel
theorem dX4_holdersAround_21 : decode cX4_holdersAround 21 = .ok (.if_icmp .gt 68, 3) := by decide +kernel
theorem dX4_holdersAround_24 : decode cX4_holdersAround 24 = .ok (.aload_n 0, 1) := by decide +kernel
theorem dX4_holdersAround_25 : decode cX4_holdersAround 25 = .ok (.getfield 25, 3) := by decide +kernel
theorem dX4_holdersAround_28 : decode cX4_holdersAround 28 = .ok (.iload_n 3, 1) := by decide +kernel
theorem dX4_holdersAround_29 : decode cX4_holdersAround 29 = .ok (.laload, 1) := by decide +kernel
theorem dX4_holdersAround_30 : decode cX4_holdersAround 30 = .ok (.ldc2_w 75, 3) := by decide +kernel
theorem dX4_holdersAround_33 : decode cX4_holdersAround 33 = .ok (.lcmp, 1) := by decide +kernel
theorem dX4_holdersAround_34 : decode cX4_holdersAround 34 = .ok (.ifCond .eq 55, 3) := by decide +kernel
theorem dX4_holdersAround_37 : decode cX4_holdersAround 37 = .ok (.aload_n 0, 1) := by decide +kernel
theorem dX4_holdersAround_38 : decode cX4_holdersAround 38 = .ok (.getfield 9, 3) := by decide +kernel
theorem dX4_holdersAround_41 : decode cX4_holdersAround 41 = .ok (.iload_n 3, 1) := by decide +kernel
theorem dX4_holdersAround_42 : decode cX4_holdersAround 42 = .ok (.iload 4, 2) := by decide +kernel
theorem dX4_holdersAround_44 : decode cX4_holdersAround 44 = .ok (.invokevirtual 94, 3) := by decide +kernel
theorem dX4_holdersAround_47 : decode cX4_holdersAround 47 = .ok (.istore 5, 2) := by decide +kernel
theorem dX4_holdersAround_49 : decode cX4_holdersAround 49 = .ok (.iload 5, 2) := by decide +kernel
theorem dX4_holdersAround_51 : decode cX4_holdersAround 51 = .ok (.iconst (-1), 1) := by decide +kernel
theorem dX4_holdersAround_52 : decode cX4_holdersAround 52 = .ok (.if_icmp .eq 31, 3) := by decide +kernel
theorem dX4_holdersAround_55 : decode cX4_holdersAround 55 = .ok (.aload_n 0, 1) := by decide +kernel
theorem dX4_holdersAround_56 : decode cX4_holdersAround 56 = .ok (.getfield 9, 3) := by decide +kernel
theorem dX4_holdersAround_59 : decode cX4_holdersAround 59 = .ok (.iload 5, 2) := by decide +kernel
theorem dX4_holdersAround_61 : decode cX4_holdersAround 61 = .ok (.iload_n 1, 1) := by decide +kernel
theorem dX4_holdersAround_62 : decode cX4_holdersAround 62 = .ok (.invokevirtual 64, 3) := by decide +kernel
theorem dX4_holdersAround_65 : decode cX4_holdersAround 65 = .ok (.ifCond .eq 18, 3) := by decide +kernel
theorem dX4_holdersAround_68 : decode cX4_holdersAround 68 = .ok (.iload_n 2, 1) := by decide +kernel
theorem dX4_holdersAround_69 : decode cX4_holdersAround 69 = .ok (.iconst 1, 1) := by decide +kernel
theorem dX4_holdersAround_70 : decode cX4_holdersAround 70 = .ok (.aload_n 0, 1) := by decide +kernel
theorem dX4_holdersAround_71 : decode cX4_holdersAround 71 = .ok (.getfield 9, 3) := by decide +kernel
theorem dX4_holdersAround_74 : decode cX4_holdersAround 74 = .ok (.getfield 56, 3) := by decide +kernel
theorem dX4_holdersAround_77 : decode cX4_holdersAround 77 = .ok (.iload 5, 2) := by decide +kernel
theorem dX4_holdersAround_79 : decode cX4_holdersAround 79 = .ok (.iaload, 1) := by decide +kernel
theorem dX4_holdersAround_80 : decode cX4_holdersAround 80 = .ok (.ishl, 1) := by decide +kernel
theorem dX4_holdersAround_81 : decode cX4_holdersAround 81 = .ok (.ior, 1) := by decide +kernel
theorem dX4_holdersAround_82 : decode cX4_holdersAround 82 = .ok (.istore_n 2, 1) := by decide +kernel
theorem dX4_holdersAround_83 : decode cX4_holdersAround 83 = .ok (.iinc 4 1, 3) := by decide +kernel
theorem dX4_holdersAround_86 : decode cX4_holdersAround 86 = .ok (.goto (-68), 3) := by decide +kernel
theorem dX4_holdersAround_89 : decode cX4_holdersAround 89 = .ok (.iinc 3 1, 3) := by decide +kernel
theorem dX4_holdersAround_92 : decode cX4_holdersAround 92 = .ok (.goto (-88), 3) := by decide +kernel
theorem dX4_holdersAround_95 : decode cX4_holdersAround 95 = .ok (.iload_n 2, 1) := by decide +kernel
theorem dX4_holdersAround_96 : decode cX4_holdersAround 96 = .ok (.ireturn, 1) := by decide +kernel
theorem dX5_init_0 : decode cX5_init 0 = .ok (.aload_n 0, 1) := by decide +kernel
theorem dX5_init_1 : decode cX5_init 1 = .ok (.invokespecial 1, 3) := by decide +kernel
theorem dX5_init_4 : decode cX5_init 4 = .ok (.aload_n 0, 1) := by decide +kernel
theorem dX5_init_5 : decode cX5_init 5 = .ok (.iload_n 1, 1) := by decide +kernel
theorem dX5_init_6 : decode cX5_init 6 = .ok (.newarray .int, 2) := by decide +kernel
theorem dX5_init_8 : decode cX5_init 8 = .ok (.putfield 7, 3) := by decide +kernel
theorem dX5_init_11 : decode cX5_init 11 = .ok (.return_, 1) := by decide +kernel
set_option maxRecDepth 20000 in
theorem ggX5_startAt_X5_add : GoodIn wsX5_startAt wsX5_add := goodIn_r _ [6, 1, 7, 8, 9] (by decide +kernel) (by decide +kernel)
set_option maxRecDepth 20000 in
theorem gX5_startAt_X5_add : GoodIn wsX5_startAt (wsV RX5 17 RX5 yX5_add wsX5_add) := goodIn_app (goodIn_of _ (by decide +kernel)) ggX5_startAt_X5_add
theorem dX5_startAt_0 : decode cX5_startAt 0 = .ok (.aload_n 0, 1) := by decide +kernel
theorem dX5_startAt_1 : decode cX5_startAt 1 = .ok (.iconst 0, 1) := by decide +kernel
theorem dX5_startAt_2 : decode cX5_startAt 2 = .ok (.putfield 13, 3) := by decide +kernel
theorem dX5_startAt_5 : decode cX5_startAt 5 = .ok (.aload_n 0, 1) := by decide +kernel
theorem dX5_startAt_6 : decode cX5_startAt 6 = .ok (.iload_n 1, 1) := by decide +kernel
theorem dX5_startAt_7 : decode cX5_startAt 7 = .ok (.invokevirtual 17, 3) := by decide +kernel
theorem dX5_startAt_10 : decode cX5_startAt 10 = .ok (.return_, 1) := by decide +kernel
theorem dX5_add_0 : decode cX5_add 0 = .ok (.aload_n 0, 1) := by decide +kernel
theorem dX5_add_1 : decode cX5_add 1 = .ok (.getfield 13, 3) := by decide +kernel
theorem dX5_add_4 : decode cX5_add 4 = .ok (.aload_n 0, 1) := by decide +kernel
theorem dX5_add_5 : decode cX5_add 5 = .ok (.getfield 7, 3) := by decide +kernel
theorem dX5_add_8 : decode cX5_add 8 = .ok (.arraylength, 1) := by decide +kernel
theorem dX5_add_9 : decode cX5_add 9 = .ok (.if_icmp .ge 23, 3) := by decide +kernel
theorem dX5_add_12 : decode cX5_add 12 = .ok (.aload_n 0, 1) := by decide +kernel
theorem dX5_add_13 : decode cX5_add 13 = .ok (.getfield 7, 3) := by decide +kernel
theorem dX5_add_16 : decode cX5_add 16 = .ok (.aload_n 0, 1) := by decide +kernel
theorem dX5_add_17 : decode cX5_add 17 = .ok (.getfield 13, 3) := by decide +kernel
theorem dX5_add_20 : decode cX5_add 20 = .ok (.iload_n 1, 1) := by decide +kernel
theorem dX5_add_21 : decode cX5_add 21 = .ok (.iastore, 1) := by decide +kernel
theorem dX5_add_22 : decode cX5_add 22 = .ok (.aload_n 0, 1) := by decide +kernel
theorem dX5_add_23 : decode cX5_add 23 = .ok (.dup, 1) := by decide +kernel
theorem dX5_add_24 : decode cX5_add 24 = .ok (.getfield 13, 3) := by decide +kernel
theorem dX5_add_27 : decode cX5_add 27 = .ok (.iconst 1, 1) := by decide +kernel
theorem dX5_add_28 : decode cX5_add 28 = .ok (.iadd, 1) := by decide +kernel
theorem dX5_add_29 : decode cX5_add 29 = .ok (.putfield 13, 3) := by decide +kernel
theorem dX5_add_32 : decode cX5_add 32 = .ok (.return_, 1) := by decide +kernel
theorem dX5_holdFor_0 : decode cX5_holdFor 0 = .ok (.iconst 0, 1) := by decide +kernel
theorem dX5_holdFor_1 : decode cX5_holdFor 1 = .ok (.istore_n 3, 1) := by decide +kernel
theorem dX5_holdFor_2 : decode cX5_holdFor 2 = .ok (.iload_n 3, 1) := by decide +kernel
theorem dX5_holdFor_3 : decode cX5_holdFor 3 = .ok (.aload_n 0, 1) := by decide +kernel
theorem dX5_holdFor_4 : decode cX5_holdFor 4 = .ok (.getfield 13, 3) := by decide +kernel
theorem dX5_holdFor_7 : decode cX5_holdFor 7 = .ok (.if_icmp .ge 33, 3) := by decide +kernel
theorem dX5_holdFor_10 : decode cX5_holdFor 10 = .ok (.aload_n 2, 1) := by decide +kernel
theorem dX5_holdFor_11 : decode cX5_holdFor 11 = .ok (.getfield 21, 3) := by decide +kernel
theorem dX5_holdFor_14 : decode cX5_holdFor 14 = .ok (.aload_n 0, 1) := by decide +kernel
theorem dX5_holdFor_15 : decode cX5_holdFor 15 = .ok (.getfield 7, 3) := by decide +kernel
theorem dX5_holdFor_18 : decode cX5_holdFor 18 = .ok (.iload_n 3, 1) := by decide +kernel
theorem dX5_holdFor_19 : decode cX5_holdFor 19 = .ok (.iaload, 1) := by decide +kernel
theorem dX5_holdFor_20 : decode cX5_holdFor 20 = .ok (.iload_n 1, 1) := by decide +kernel
theorem dX5_holdFor_21 : decode cX5_holdFor 21 = .ok (.iastore, 1) := by decide +kernel
theorem dX5_holdFor_22 : decode cX5_holdFor 22 = .ok (.aload_n 2, 1) := by decide +kernel
theorem dX5_holdFor_23 : decode cX5_holdFor 23 = .ok (.getfield 26, 3) := by decide +kernel
theorem dX5_holdFor_26 : decode cX5_holdFor 26 = .ok (.aload_n 0, 1) := by decide +kernel
theorem dX5_holdFor_27 : decode cX5_holdFor 27 = .ok (.getfield 7, 3) := by decide +kernel
theorem dX5_holdFor_30 : decode cX5_holdFor 30 = .ok (.iload_n 3, 1) := by decide +kernel
theorem dX5_holdFor_31 : decode cX5_holdFor 31 = .ok (.iaload, 1) := by decide +kernel
theorem dX5_holdFor_32 : decode cX5_holdFor 32 = .ok (.iload_n 3, 1) := by decide +kernel
theorem dX5_holdFor_33 : decode cX5_holdFor 33 = .ok (.iastore, 1) := by decide +kernel
theorem dX5_holdFor_34 : decode cX5_holdFor 34 = .ok (.iinc 3 1, 3) := by decide +kernel
theorem dX5_holdFor_37 : decode cX5_holdFor 37 = .ok (.goto (-35), 3) := by decide +kernel
theorem dX5_holdFor_40 : decode cX5_holdFor 40 = .ok (.return_, 1) := by decide +kernel
theorem dJ6_bitCount_0f7a4_0 : decode cJ6_bitCount_0f7a4 0 = .ok (.iload_n 0, 1) := by decide +kernel
theorem dJ6_bitCount_0f7a4_1 : decode cJ6_bitCount_0f7a4 1 = .ok (.iload_n 0, 1) := by decide +kernel
theorem dJ6_bitCount_0f7a4_2 : decode cJ6_bitCount_0f7a4 2 = .ok (.iconst 1, 1) := by decide +kernel
theorem dJ6_bitCount_0f7a4_3 : decode cJ6_bitCount_0f7a4 3 = .ok (.iushr, 1) := by decide +kernel
theorem dJ6_bitCount_0f7a4_4 : decode cJ6_bitCount_0f7a4 4 = .ok (.ldc_w 265, 3) := by decide +kernel
theorem dJ6_bitCount_0f7a4_7 : decode cJ6_bitCount_0f7a4 7 = .ok (.iand, 1) := by decide +kernel
theorem dJ6_bitCount_0f7a4_8 : decode cJ6_bitCount_0f7a4 8 = .ok (.isub, 1) := by decide +kernel
theorem dJ6_bitCount_0f7a4_9 : decode cJ6_bitCount_0f7a4 9 = .ok (.istore_n 0, 1) := by decide +kernel
theorem dJ6_bitCount_0f7a4_10 : decode cJ6_bitCount_0f7a4 10 = .ok (.iload_n 0, 1) := by decide +kernel
theorem dJ6_bitCount_0f7a4_11 : decode cJ6_bitCount_0f7a4 11 = .ok (.ldc_w 266, 3) := by decide +kernel
theorem dJ6_bitCount_0f7a4_14 : decode cJ6_bitCount_0f7a4 14 = .ok (.iand, 1) := by decide +kernel
theorem dJ6_bitCount_0f7a4_15 : decode cJ6_bitCount_0f7a4 15 = .ok (.iload_n 0, 1) := by decide +kernel
theorem dJ6_bitCount_0f7a4_16 : decode cJ6_bitCount_0f7a4 16 = .ok (.iconst 2, 1) := by decide +kernel
theorem dJ6_bitCount_0f7a4_17 : decode cJ6_bitCount_0f7a4 17 = .ok (.iushr, 1) := by decide +kernel
theorem dJ6_bitCount_0f7a4_18 : decode cJ6_bitCount_0f7a4 18 = .ok (.ldc_w 266, 3) := by decide +kernel
theorem dJ6_bitCount_0f7a4_21 : decode cJ6_bitCount_0f7a4 21 = .ok (.iand, 1) := by decide +kernel
theorem dJ6_bitCount_0f7a4_22 : decode cJ6_bitCount_0f7a4 22 = .ok (.iadd, 1) := by decide +kernel
theorem dJ6_bitCount_0f7a4_23 : decode cJ6_bitCount_0f7a4 23 = .ok (.istore_n 0, 1) := by decide +kernel
theorem dJ6_bitCount_0f7a4_24 : decode cJ6_bitCount_0f7a4 24 = .ok (.iload_n 0, 1) := by decide +kernel
theorem dJ6_bitCount_0f7a4_25 : decode cJ6_bitCount_0f7a4 25 = .ok (.iload_n 0, 1) := by decide +kernel
theorem dJ6_bitCount_0f7a4_26 : decode cJ6_bitCount_0f7a4 26 = .ok (.iconst 4, 1) := by decide +kernel
theorem dJ6_bitCount_0f7a4_27 : decode cJ6_bitCount_0f7a4 27 = .ok (.iushr, 1) := by decide +kernel
theorem dJ6_bitCount_0f7a4_28 : decode cJ6_bitCount_0f7a4 28 = .ok (.iadd, 1) := by decide +kernel
theorem dJ6_bitCount_0f7a4_29 : decode cJ6_bitCount_0f7a4 29 = .ok (.ldc_w 267, 3) := by decide +kernel
theorem dJ6_bitCount_0f7a4_32 : decode cJ6_bitCount_0f7a4 32 = .ok (.iand, 1) := by decide +kernel
theorem dJ6_bitCount_0f7a4_33 : decode cJ6_bitCount_0f7a4 33 = .ok (.istore_n 0, 1) := by decide +kernel
theorem dJ6_bitCount_0f7a4_34 : decode cJ6_bitCount_0f7a4 34 = .ok (.iload_n 0, 1) := by decide +kernel
theorem dJ6_bitCount_0f7a4_35 : decode cJ6_bitCount_0f7a4 35 = .ok (.iload_n 0, 1) := by decide +kernel
theorem dJ6_bitCount_0f7a4_36 : decode cJ6_bitCount_0f7a4 36 = .ok (.bipush 8, 2) := by decide +kernel
theorem dJ6_bitCount_0f7a4_38 : decode cJ6_bitCount_0f7a4 38 = .ok (.iushr, 1) := by decide +kernel
theorem dJ6_bitCount_0f7a4_39 : decode cJ6_bitCount_0f7a4 39 = .ok (.iadd, 1) := by decide +kernel
theorem dJ6_bitCount_0f7a4_40 : decode cJ6_bitCount_0f7a4 40 = .ok (.istore_n 0, 1) := by decide +kernel
theorem dJ6_bitCount_0f7a4_41 : decode cJ6_bitCount_0f7a4 41 = .ok (.iload_n 0, 1) := by decide +kernel
theorem dJ6_bitCount_0f7a4_42 : decode cJ6_bitCount_0f7a4 42 = .ok (.iload_n 0, 1) := by decide +kernel
theorem dJ6_bitCount_0f7a4_43 : decode cJ6_bitCount_0f7a4 43 = .ok (.bipush 16, 2) := by decide +kernel
theorem dJ6_bitCount_0f7a4_45 : decode cJ6_bitCount_0f7a4 45 = .ok (.iushr, 1) := by decide +kernel
theorem dJ6_bitCount_0f7a4_46 : decode cJ6_bitCount_0f7a4 46 = .ok (.iadd, 1) := by decide +kernel
theorem dJ6_bitCount_0f7a4_47 : decode cJ6_bitCount_0f7a4 47 = .ok (.istore_n 0, 1) := by decide +kernel
theorem dJ6_bitCount_0f7a4_48 : decode cJ6_bitCount_0f7a4 48 = .ok (.iload_n 0, 1) := by decide +kernel
theorem dJ6_bitCount_0f7a4_49 : decode cJ6_bitCount_0f7a4 49 = .ok (.bipush 63, 2) := by decide +kernel
theorem dJ6_bitCount_0f7a4_51 : decode cJ6_bitCount_0f7a4 51 = .ok (.iand, 1) := by decide +kernel
theorem dJ6_bitCount_0f7a4_52 : decode cJ6_bitCount_0f7a4 52 = .ok (.ireturn, 1) := by decide +kernel
theorem dJ9_max_7cf53_0 : decode cJ9_max_7cf53 0 = .ok (.iload_n 0, 1) := by decide +kernel
theorem dJ9_max_7cf53_1 : decode cJ9_max_7cf53 1 = .ok (.iload_n 1, 1) := by decide +kernel
theorem dJ9_max_7cf53_2 : decode cJ9_max_7cf53 2 = .ok (.if_icmp .lt 7, 3) := by decide +kernel
theorem dJ9_max_7cf53_5 : decode cJ9_max_7cf53 5 = .ok (.iload_n 0, 1) := by decide +kernel
theorem dJ9_max_7cf53_6 : decode cJ9_max_7cf53 6 = .ok (.goto 4, 3) := by decide +kernel
theorem dJ9_max_7cf53_9 : decode cJ9_max_7cf53 9 = .ok (.iload_n 1, 1) := by decide +kernel
theorem dJ9_max_7cf53_10 : decode cJ9_max_7cf53 10 = .ok (.ireturn, 1) := by decide +kernel
theorem dJ9_min_7cf53_0 : decode cJ9_min_7cf53 0 = .ok (.iload_n 0, 1) := by decide +kernel
theorem dJ9_min_7cf53_1 : decode cJ9_min_7cf53 1 = .ok (.iload_n 1, 1) := by decide +kernel
theorem dJ9_min_7cf53_2 : decode cJ9_min_7cf53 2 = .ok (.if_icmp .gt 7, 3) := by decide +kernel
theorem dJ9_min_7cf53_5 : decode cJ9_min_7cf53 5 = .ok (.iload_n 0, 1) := by decide +kernel
theorem dJ9_min_7cf53_6 : decode cJ9_min_7cf53 6 = .ok (.goto 4, 3) := by decide +kernel
theorem dJ9_min_7cf53_9 : decode cJ9_min_7cf53 9 = .ok (.iload_n 1, 1) := by decide +kernel
theorem dJ9_min_7cf53_10 : decode cJ9_min_7cf53 10 = .ok (.ireturn, 1) := by decide +kernel
theorem dJ7_fill_d0a16_0 : decode cJ7_fill_d0a16 0 = .ok (.iconst 0, 1) := by decide +kernel
theorem dJ7_fill_d0a16_1 : decode cJ7_fill_d0a16 1 = .ok (.istore_n 3, 1) := by decide +kernel
theorem dJ7_fill_d0a16_2 : decode cJ7_fill_d0a16 2 = .ok (.aload_n 0, 1) := by decide +kernel
theorem dJ7_fill_d0a16_3 : decode cJ7_fill_d0a16 3 = .ok (.arraylength, 1) := by decide +kernel
theorem dJ7_fill_d0a16_4 : decode cJ7_fill_d0a16 4 = .ok (.istore 4, 2) := by decide +kernel
theorem dJ7_fill_d0a16_6 : decode cJ7_fill_d0a16 6 = .ok (.iload_n 3, 1) := by decide +kernel
theorem dJ7_fill_d0a16_7 : decode cJ7_fill_d0a16 7 = .ok (.iload 4, 2) := by decide +kernel
theorem dJ7_fill_d0a16_9 : decode cJ7_fill_d0a16 9 = .ok (.if_icmp .ge 13, 3) := by decide +kernel
theorem dJ7_fill_d0a16_12 : decode cJ7_fill_d0a16 12 = .ok (.aload_n 0, 1) := by decide +kernel
theorem dJ7_fill_d0a16_13 : decode cJ7_fill_d0a16 13 = .ok (.iload_n 3, 1) := by decide +kernel
theorem dJ7_fill_d0a16_14 : decode cJ7_fill_d0a16 14 = .ok (.lload_n 1, 1) := by decide +kernel
theorem dJ7_fill_d0a16_15 : decode cJ7_fill_d0a16 15 = .ok (.lastore, 1) := by decide +kernel
theorem dJ7_fill_d0a16_16 : decode cJ7_fill_d0a16 16 = .ok (.iinc 3 1, 3) := by decide +kernel
theorem dJ7_fill_d0a16_19 : decode cJ7_fill_d0a16 19 = .ok (.goto (-13), 3) := by decide +kernel
theorem dJ7_fill_d0a16_22 : decode cJ7_fill_d0a16 22 = .ok (.return_, 1) := by decide +kernel
theorem dJ7_fill_53178_0 : decode cJ7_fill_53178 0 = .ok (.iconst 0, 1) := by decide +kernel
theorem dJ7_fill_53178_1 : decode cJ7_fill_53178 1 = .ok (.istore_n 2, 1) := by decide +kernel
theorem dJ7_fill_53178_2 : decode cJ7_fill_53178 2 = .ok (.aload_n 0, 1) := by decide +kernel
theorem dJ7_fill_53178_3 : decode cJ7_fill_53178 3 = .ok (.arraylength, 1) := by decide +kernel
theorem dJ7_fill_53178_4 : decode cJ7_fill_53178 4 = .ok (.istore_n 3, 1) := by decide +kernel
theorem dJ7_fill_53178_5 : decode cJ7_fill_53178 5 = .ok (.iload_n 2, 1) := by decide +kernel
theorem dJ7_fill_53178_6 : decode cJ7_fill_53178 6 = .ok (.iload_n 3, 1) := by decide +kernel
theorem dJ7_fill_53178_7 : decode cJ7_fill_53178 7 = .ok (.if_icmp .ge 13, 3) := by decide +kernel
theorem dJ7_fill_53178_10 : decode cJ7_fill_53178 10 = .ok (.aload_n 0, 1) := by decide +kernel
theorem dJ7_fill_53178_11 : decode cJ7_fill_53178 11 = .ok (.iload_n 2, 1) := by decide +kernel
theorem dJ7_fill_53178_12 : decode cJ7_fill_53178 12 = .ok (.iload_n 1, 1) := by decide +kernel
theorem dJ7_fill_53178_13 : decode cJ7_fill_53178 13 = .ok (.iastore, 1) := by decide +kernel
theorem dJ7_fill_53178_14 : decode cJ7_fill_53178 14 = .ok (.iinc 2 1, 3) := by decide +kernel
theorem dJ7_fill_53178_17 : decode cJ7_fill_53178 17 = .ok (.goto (-12), 3) := by decide +kernel
theorem dJ7_fill_53178_20 : decode cJ7_fill_53178 20 = .ok (.return_, 1) := by decide +kernel
