set_option maxRecDepth 20000 in
theorem ggX6_init_X1_init : GoodIn wsX6_init wsX1_init := goodIn_r _ [32, 33, 2, 3, 34, 35, 36, 37, 38, 39, 40, 41, 42, 43, 44, 45, 46, 47, 48, 25, 49, 50, 51, 52, 53, 54, 55, 56, 92, 93, 94, 95, 96, 97, 98, 99, 100, 101] (by decide +kernel) (by decide +kernel)
set_option maxRecDepth 20000 in
theorem gX6_init_X1_init : GoodIn wsX6_init (wsX1_init) := ggX6_init_X1_init
set_option maxRecDepth 20000 in
theorem ggX6_init_X3_init : GoodIn wsX6_init wsX3_init := goodIn_r _ [58, 59, 2, 3, 25, 60, 61, 62, 111, 112, 113] (by decide +kernel) (by decide +kernel)
set_option maxRecDepth 20000 in
theorem gX6_init_X3_init_n20 : GoodIn wsX6_init (wsX3_init) := ggX6_init_X3_init
set_option maxRecDepth 20000 in
theorem ggX6_init_X4_init : GoodIn wsX6_init wsX4_init := goodIn_r _ [65, 66, 2, 3, 67, 68, 69, 51, 70, 71, 72, 73, 74, 75, 76, 77, 78, 79, 80, 25, 81, 82, 114, 115, 116, 117, 118, 92, 93, 94, 95, 96, 97, 98, 99, 100, 101, 127, 128, 129, 130] (by decide +kernel) (by decide +kernel)
set_option maxRecDepth 20000 in
theorem gX6_init_X4_init : GoodIn wsX6_init (wsX4_init) := ggX6_init_X4_init
set_option maxRecDepth 20000 in
theorem ggX6_init_X5_init : GoodIn wsX6_init wsX5_init := goodIn_r _ [85, 86, 2, 3, 25, 87, 119, 120] (by decide +kernel) (by decide +kernel)
set_option maxRecDepth 20000 in
theorem gX6_init_X5_init : GoodIn wsX6_init (wsX5_init) := ggX6_init_X5_init
set_option maxRecDepth 20000 in
theorem ggX6_init_X2_init : GoodIn wsX6_init wsX2_init := goodIn_r _ [89, 90, 2, 3, 25, 91, 121, 122, 123, 124, 125, 126] (by decide +kernel) (by decide +kernel)
set_option maxRecDepth 20000 in
theorem gX6_init_X2_init_n53 : GoodIn wsX6_init (wsX2_init) := ggX6_init_X2_init
theorem dX6_init_0 : decode cX6_init 0 = .ok (.aload_n 0, 1) := by decide +kernel
theorem dX6_init_1 : decode cX6_init 1 = .ok (.invokespecial 1, 3) := by decide +kernel
theorem dX6_init_4 : decode cX6_init 4 = .ok (.aload_n 0, 1) := by decide +kernel
theorem dX6_init_5 : decode cX6_init 5 = .ok (.new 7, 3) := by decide +kernel
theorem dX6_init_8 : decode cX6_init 8 = .ok (.dup, 1) := by decide +kernel
theorem dX6_init_9 : decode cX6_init 9 = .ok (.iload_n 1, 1) := by decide +kernel
theorem dX6_init_10 : decode cX6_init 10 = .ok (.iload_n 2, 1) := by decide +kernel
theorem dX6_init_11 : decode cX6_init 11 = .ok (.iload_n 3, 1) := by decide +kernel
theorem dX6_init_12 : decode cX6_init 12 = .ok (.invokespecial 9, 3) := by decide +kernel
theorem dX6_init_15 : decode cX6_init 15 = .ok (.putfield 12, 3) := by decide +kernel
theorem dX6_init_18 : decode cX6_init 18 = .ok (.aload_n 0, 1) := by decide +kernel
theorem dX6_init_19 : decode cX6_init 19 = .ok (.new 18, 3) := by decide +kernel
theorem dX6_init_22 : decode cX6_init 22 = .ok (.dup, 1) := by decide +kernel
theorem dX6_init_23 : decode cX6_init 23 = .ok (.invokespecial 20, 3) := by decide +kernel
theorem dX6_init_26 : decode cX6_init 26 = .ok (.putfield 21, 3) := by decide +kernel
theorem dX6_init_29 : decode cX6_init 29 = .ok (.aload_n 0, 1) := by decide +kernel
theorem dX6_init_30 : decode cX6_init 30 = .ok (.new 25, 3) := by decide +kernel
theorem dX6_init_33 : decode cX6_init 33 = .ok (.dup, 1) := by decide +kernel
theorem dX6_init_34 : decode cX6_init 34 = .ok (.aload_n 0, 1) := by decide +kernel
theorem dX6_init_35 : decode cX6_init 35 = .ok (.getfield 12, 3) := by decide +kernel
theorem dX6_init_38 : decode cX6_init 38 = .ok (.aload_n 0, 1) := by decide +kernel
theorem dX6_init_39 : decode cX6_init 39 = .ok (.getfield 21, 3) := by decide +kernel
theorem dX6_init_42 : decode cX6_init 42 = .ok (.invokespecial 27, 3) := by decide +kernel
theorem dX6_init_45 : decode cX6_init 45 = .ok (.putfield 30, 3) := by decide +kernel
theorem dX6_init_48 : decode cX6_init 48 = .ok (.aload_n 0, 1) := by decide +kernel
theorem dX6_init_49 : decode cX6_init 49 = .ok (.new 34, 3) := by decide +kernel
theorem dX6_init_52 : decode cX6_init 52 = .ok (.dup, 1) := by decide +kernel
theorem dX6_init_53 : decode cX6_init 53 = .ok (.aload_n 0, 1) := by decide +kernel
theorem dX6_init_54 : decode cX6_init 54 = .ok (.getfield 12, 3) := by decide +kernel
theorem dX6_init_57 : decode cX6_init 57 = .ok (.getfield 36, 3) := by decide +kernel
theorem dX6_init_60 : decode cX6_init 60 = .ok (.invokespecial 40, 3) := by decide +kernel
theorem dX6_init_63 : decode cX6_init 63 = .ok (.putfield 43, 3) := by decide +kernel
theorem dX6_init_66 : decode cX6_init 66 = .ok (.aload_n 0, 1) := by decide +kernel
theorem dX6_init_67 : decode cX6_init 67 = .ok (.bipush 12, 2) := by decide +kernel
theorem dX6_init_69 : decode cX6_init 69 = .ok (.anewarray 47, 3) := by decide +kernel
theorem dX6_init_72 : decode cX6_init 72 = .ok (.putfield 49, 3) := by decide +kernel
theorem dX6_init_75 : decode cX6_init 75 = .ok (.iconst 0, 1) := by decide +kernel
theorem dX6_init_76 : decode cX6_init 76 = .ok (.istore 6, 2) := by decide +kernel
theorem dX6_init_78 : decode cX6_init 78 = .ok (.iload 6, 2) := by decide +kernel
theorem dX6_init_80 : decode cX6_init 80 = .ok (.bipush 12, 2) := by decide +kernel
theorem dX6_init_82 : decode cX6_init 82 = .ok (.if_icmp .ge 23, 3) := by decide +kernel
theorem dX6_init_85 : decode cX6_init 85 = .ok (.aload_n 0, 1) := by decide +kernel
theorem dX6_init_86 : decode cX6_init 86 = .ok (.getfield 49, 3) := by decide +kernel
theorem dX6_init_89 : decode cX6_init 89 = .ok (.iload 6, 2) := by decide +kernel
theorem dX6_init_91 : decode cX6_init 91 = .ok (.new 47, 3) := by decide +kernel
theorem dX6_init_94 : decode cX6_init 94 = .ok (.dup, 1) := by decide +kernel
theorem dX6_init_95 : decode cX6_init 95 = .ok (.invokespecial 53, 3) := by decide +kernel
theorem dX6_init_98 : decode cX6_init 98 = .ok (.aastore, 1) := by decide +kernel
theorem dX6_init_99 : decode cX6_init 99 = .ok (.iinc 6 1, 3) := by decide +kernel
theorem dX6_init_102 : decode cX6_init 102 = .ok (.goto (-24), 3) := by decide +kernel
theorem dX6_init_105 : decode cX6_init 105 = .ok (.aload_n 0, 1) := by decide +kernel
theorem dX6_init_106 : decode cX6_init 106 = .ok (.bipush 12, 2) := by decide +kernel
theorem dX6_init_108 : decode cX6_init 108 = .ok (.newarray .int, 2) := by decide +kernel
theorem dX6_init_110 : decode cX6_init 110 = .ok (.putfield 54, 3) := by decide +kernel
theorem dX6_init_113 : decode cX6_init 113 = .ok (.aload_n 0, 1) := by decide +kernel
theorem dX6_init_114 : decode cX6_init 114 = .ok (.iconst 0, 1) := by decide +kernel
theorem dX6_init_115 : decode cX6_init 115 = .ok (.putfield 58, 3) := by decide +kernel
theorem dX6_init_118 : decode cX6_init 118 = .ok (.aload_n 0, 1) := by decide +kernel
theorem dX6_init_119 : decode cX6_init 119 = .ok (.iconst 0, 1) := by decide +kernel
theorem dX6_init_120 : decode cX6_init 120 = .ok (.putfield 61, 3) := by decide +kernel
theorem dX6_init_123 : decode cX6_init 123 = .ok (.aload_n 0, 1) := by decide +kernel
theorem dX6_init_124 : decode cX6_init 124 = .ok (.lload 4, 2) := by decide +kernel
theorem dX6_init_126 : decode cX6_init 126 = .ok (.putfield 64, 3) := by decide +kernel
theorem dX6_init_129 : decode cX6_init 129 = .ok (.return_, 1) := by decide +kernel
set_option maxRecDepth 20000 in
theorem ggX6_bar_X6_cellAt : GoodIn wsX6_bar wsX6_cellAt := goodIn_ca (goodIn_r _ [8, 9, 10, 1, 11, 12, 13, 14, 15, 16, 17, 18, 19, 20, 21, 22, 23, 24, 25, 26, 27, 28, 29, 30, 31, 32, 33, 34, 35, 36, 37, 38, 39, 40, 41] (by decide +kernel) (by decide +kernel)) (goodIn_sub (fun _ h => List.mem_cons_of_mem _ (List.mem_append_right _ h)) (by decide +kernel))
set_option maxRecDepth 20000 in
theorem gX6_bar_X6_cellAt : GoodIn wsX6_bar (wsV RX6 68 RX6 yX6_cellAt wsX6_cellAt) := goodIn_app (goodIn_of _ (by decide +kernel)) ggX6_bar_X6_cellAt
theorem dX6_bar_0 : decode cX6_bar 0 = .ok (.aload_n 0, 1) := by decide +kernel
theorem dX6_bar_1 : decode cX6_bar 1 = .ok (.iload_n 1, 1) := by decide +kernel
theorem dX6_bar_2 : decode cX6_bar 2 = .ok (.iload_n 2, 1) := by decide +kernel
theorem dX6_bar_3 : decode cX6_bar 3 = .ok (.iload_n 3, 1) := by decide +kernel
theorem dX6_bar_4 : decode cX6_bar 4 = .ok (.invokevirtual 68, 3) := by decide +kernel
theorem dX6_bar_7 : decode cX6_bar 7 = .ok (.istore 4, 2) := by decide +kernel
theorem dX6_bar_9 : decode cX6_bar 9 = .ok (.aload_n 0, 1) := by decide +kernel
theorem dX6_bar_10 : decode cX6_bar 10 = .ok (.getfield 12, 3) := by decide +kernel
theorem dX6_bar_13 : decode cX6_bar 13 = .ok (.getfield 72, 3) := by decide +kernel
theorem dX6_bar_16 : decode cX6_bar 16 = .ok (.iload 4, 2) := by decide +kernel
theorem dX6_bar_18 : decode cX6_bar 18 = .ok (.baload, 1) := by decide +kernel
theorem dX6_bar_19 : decode cX6_bar 19 = .ok (.ifCond .ne 17, 3) := by decide +kernel
theorem dX6_bar_22 : decode cX6_bar 22 = .ok (.aload_n 0, 1) := by decide +kernel
theorem dX6_bar_23 : decode cX6_bar 23 = .ok (.getfield 12, 3) := by decide +kernel
theorem dX6_bar_26 : decode cX6_bar 26 = .ok (.getfield 76, 3) := by decide +kernel
theorem dX6_bar_29 : decode cX6_bar 29 = .ok (.iload 4, 2) := by decide +kernel
theorem dX6_bar_31 : decode cX6_bar 31 = .ok (.iaload, 1) := by decide +kernel
theorem dX6_bar_32 : decode cX6_bar 32 = .ok (.iconst (-1), 1) := by decide +kernel
theorem dX6_bar_33 : decode cX6_bar 33 = .ok (.if_icmp .eq 5, 3) := by decide +kernel
theorem dX6_bar_36 : decode cX6_bar 36 = .ok (.iconst 0, 1) := by decide +kernel
theorem dX6_bar_37 : decode cX6_bar 37 = .ok (.ireturn, 1) := by decide +kernel
theorem dX6_bar_38 : decode cX6_bar 38 = .ok (.aload_n 0, 1) := by decide +kernel
theorem dX6_bar_39 : decode cX6_bar 39 = .ok (.getfield 12, 3) := by decide +kernel
theorem dX6_bar_42 : decode cX6_bar 42 = .ok (.getfield 72, 3) := by decide +kernel
theorem dX6_bar_45 : decode cX6_bar 45 = .ok (.iload 4, 2) := by decide +kernel
theorem dX6_bar_47 : decode cX6_bar 47 = .ok (.iconst 1, 1) := by decide +kernel
theorem dX6_bar_48 : decode cX6_bar 48 = .ok (.bastore, 1) := by decide +kernel
theorem dX6_bar_49 : decode cX6_bar 49 = .ok (.iconst 1, 1) := by decide +kernel
theorem dX6_bar_50 : decode cX6_bar 50 = .ok (.ireturn, 1) := by decide +kernel
theorem dX6_net_0 : decode cX6_net 0 = .ok (.aload_n 0, 1) := by decide +kernel
theorem dX6_net_1 : decode cX6_net 1 = .ok (.getfield 58, 3) := by decide +kernel
theorem dX6_net_4 : decode cX6_net 4 = .ok (.bipush 12, 2) := by decide +kernel
theorem dX6_net_6 : decode cX6_net 6 = .ok (.if_icmp .lt 5, 3) := by decide +kernel
theorem dX6_net_9 : decode cX6_net 9 = .ok (.iconst (-1), 1) := by decide +kernel
theorem dX6_net_10 : decode cX6_net 10 = .ok (.ireturn, 1) := by decide +kernel
theorem dX6_net_11 : decode cX6_net 11 = .ok (.aload_n 0, 1) := by decide +kernel
theorem dX6_net_12 : decode cX6_net 12 = .ok (.dup, 1) := by decide +kernel
theorem dX6_net_13 : decode cX6_net 13 = .ok (.getfield 58, 3) := by decide +kernel
theorem dX6_net_16 : decode cX6_net 16 = .ok (.iconst 1, 1) := by decide +kernel
theorem dX6_net_17 : decode cX6_net 17 = .ok (.iadd, 1) := by decide +kernel
theorem dX6_net_18 : decode cX6_net 18 = .ok (.putfield 58, 3) := by decide +kernel
theorem dX6_net_21 : decode cX6_net 21 = .ok (.aload_n 0, 1) := by decide +kernel
theorem dX6_net_22 : decode cX6_net 22 = .ok (.getfield 58, 3) := by decide +kernel
theorem dX6_net_25 : decode cX6_net 25 = .ok (.iconst 1, 1) := by decide +kernel
theorem dX6_net_26 : decode cX6_net 26 = .ok (.isub, 1) := by decide +kernel
theorem dX6_net_27 : decode cX6_net 27 = .ok (.ireturn, 1) := by decide +kernel
set_option maxRecDepth 20000 in
theorem ggX6_pin_X6_netAt : GoodIn wsX6_pin wsX6_netAt := goodIn_ca (goodIn_r _ [9, 10, 11, 12, 13, 58, 59, 60, 61, 62, 63, 64, 65, 66] (by decide +kernel) (by decide +kernel)) (goodIn_sub (fun _ h => List.mem_cons_of_mem _ (List.mem_append_right _ h)) (by decide +kernel))
set_option maxRecDepth 20000 in
theorem gX6_pin_X6_netAt : GoodIn wsX6_pin (wsV RX6 79 RX6 yX6_netAt wsX6_netAt) := goodIn_app (goodIn_of _ (by decide +kernel)) ggX6_pin_X6_netAt
set_option maxRecDepth 20000 in
theorem ggX6_pin_X6_cellAt : GoodIn wsX6_pin wsX6_cellAt := goodIn_ca (goodIn_r _ [17, 10, 11, 1, 18, 19, 20, 21, 22, 23, 24, 25, 26, 27, 28, 29, 58, 59, 60, 61, 62, 63, 64, 65, 66, 67, 68, 69, 70, 71, 72, 73, 74, 75, 76] (by decide +kernel) (by decide +kernel)) (goodIn_sub (fun _ h => List.mem_cons_of_mem _ (List.mem_append_right _ h)) (by decide +kernel))
set_option maxRecDepth 20000 in
theorem gX6_pin_X6_cellAt : GoodIn wsX6_pin (wsV RX6 68 RX6 yX6_cellAt wsX6_cellAt) := goodIn_app (goodIn_of _ (by decide +kernel)) ggX6_pin_X6_cellAt
set_option maxRecDepth 20000 in
theorem ggX6_pin_X1_heldByOther : GoodIn wsX6_pin wsX1_heldByOther := goodIn_r _ [33, 34, 67, 68, 69, 70, 71, 72, 73, 74, 75, 76] (by decide +kernel) (by decide +kernel)
set_option maxRecDepth 20000 in
theorem gX6_pin_X1_heldByOther : GoodIn wsX6_pin (wsV RX6 86 RX1 yX1_heldByOther wsX1_heldByOther) := goodIn_app (goodIn_of _ (by decide +kernel)) ggX6_pin_X1_heldByOther
set_option maxRecDepth 20000 in
theorem ggX6_pin_X2_hasRoom : GoodIn wsX6_pin wsX2_hasRoom := goodIn_r _ [39, 40, 77, 78, 79, 80, 81, 82] (by decide +kernel) (by decide +kernel)
set_option maxRecDepth 20000 in
theorem gX6_pin_X2_hasRoom : GoodIn wsX6_pin (wsV RX6 90 RX2 yX2_hasRoom wsX2_hasRoom) := goodIn_app (goodIn_of _ (by decide +kernel)) ggX6_pin_X2_hasRoom
set_option maxRecDepth 20000 in
theorem ggX6_pin_X6_layOpen : GoodIn wsX6_pin wsX6_layOpen := goodIn_r _ [44, 13, 45, 1, 46, 47, 48, 21, 49, 50, 34, 51, 58, 59, 60, 61, 62, 63, 64, 65, 66, 77, 78, 79, 80, 81, 82, 67, 68, 69, 70, 71, 72, 73, 74, 75, 76] (by decide +kernel) (by decide +kernel)
set_option maxRecDepth 20000 in
theorem gX6_pin_X6_layOpen : GoodIn wsX6_pin (wsV RX6 94 RX6 yX6_layOpen wsX6_layOpen) := goodIn_app (goodIn_of _ (by decide +kernel)) ggX6_pin_X6_layOpen
set_option maxRecDepth 20000 in
theorem ggX6_pin_X2_addPin : GoodIn wsX6_pin wsX2_addPin := goodIn_r _ [55, 56, 40, 57, 36, 37, 38, 39, 77, 78, 79, 80, 81, 82] (by decide +kernel) (by decide +kernel)
set_option maxRecDepth 20000 in
theorem gX6_pin_X2_addPin : GoodIn wsX6_pin (wsV RX6 97 RX2 yX2_addPin wsX2_addPin) := goodIn_app (goodIn_of _ (by decide +kernel)) ggX6_pin_X2_addPin
theorem dX6_pin_0 : decode cX6_pin 0 = .ok (.aload_n 0, 1) := by decide +kernel
theorem dX6_pin_1 : decode cX6_pin 1 = .ok (.iload_n 1, 1) := by decide +kernel
theorem dX6_pin_2 : decode cX6_pin 2 = .ok (.invokevirtual 79, 3) := by decide +kernel
theorem dX6_pin_5 : decode cX6_pin 5 = .ok (.astore 5, 2) := by decide +kernel
theorem dX6_pin_7 : decode cX6_pin 7 = .ok (.aload_n 0, 1) := by decide +kernel
theorem dX6_pin_8 : decode cX6_pin 8 = .ok (.iload_n 2, 1) := by decide +kernel
theorem dX6_pin_9 : decode cX6_pin 9 = .ok (.iload_n 3, 1) := by decide +kernel
theorem dX6_pin_10 : decode cX6_pin 10 = .ok (.iload 4, 2) := by decide +kernel
theorem dX6_pin_12 : decode cX6_pin 12 = .ok (.invokevirtual 68, 3) := by decide +kernel
theorem dX6_pin_15 : decode cX6_pin 15 = .ok (.istore 6, 2) := by decide +kernel
theorem dX6_pin_17 : decode cX6_pin 17 = .ok (.aload_n 0, 1) := by decide +kernel
theorem dX6_pin_18 : decode cX6_pin 18 = .ok (.getfield 12, 3) := by decide +kernel
theorem dX6_pin_21 : decode cX6_pin 21 = .ok (.getfield 72, 3) := by decide +kernel
theorem dX6_pin_24 : decode cX6_pin 24 = .ok (.iload 6, 2) := by decide +kernel
theorem dX6_pin_26 : decode cX6_pin 26 = .ok (.baload, 1) := by decide +kernel
theorem dX6_pin_27 : decode cX6_pin 27 = .ok (.ifCond .ne 37, 3) := by decide +kernel
theorem dX6_pin_30 : decode cX6_pin 30 = .ok (.aload_n 0, 1) := by decide +kernel
theorem dX6_pin_31 : decode cX6_pin 31 = .ok (.getfield 12, 3) := by decide +kernel
theorem dX6_pin_34 : decode cX6_pin 34 = .ok (.getfield 83, 3) := by decide +kernel
theorem dX6_pin_37 : decode cX6_pin 37 = .ok (.iload 6, 2) := by decide +kernel
theorem dX6_pin_39 : decode cX6_pin 39 = .ok (.baload, 1) := by decide +kernel
theorem dX6_pin_40 : decode cX6_pin 40 = .ok (.ifCond .ne 24, 3) := by decide +kernel
theorem dX6_pin_43 : decode cX6_pin 43 = .ok (.aload_n 0, 1) := by decide +kernel
theorem dX6_pin_44 : decode cX6_pin 44 = .ok (.getfield 12, 3) := by decide +kernel
theorem dX6_pin_47 : decode cX6_pin 47 = .ok (.iload 6, 2) := by decide +kernel
theorem dX6_pin_49 : decode cX6_pin 49 = .ok (.iload_n 1, 1) := by decide +kernel
theorem dX6_pin_50 : decode cX6_pin 50 = .ok (.invokevirtual 86, 3) := by decide +kernel
theorem dX6_pin_53 : decode cX6_pin 53 = .ok (.ifCond .ne 11, 3) := by decide +kernel
theorem dX6_pin_56 : decode cX6_pin 56 = .ok (.aload 5, 2) := by decide +kernel
theorem dX6_pin_58 : decode cX6_pin 58 = .ok (.invokevirtual 90, 3) := by decide +kernel
theorem dX6_pin_61 : decode cX6_pin 61 = .ok (.ifCond .ne 5, 3) := by decide +kernel
theorem dX6_pin_64 : decode cX6_pin 64 = .ok (.iconst 0, 1) := by decide +kernel
theorem dX6_pin_65 : decode cX6_pin 65 = .ok (.ireturn, 1) := by decide +kernel
theorem dX6_pin_66 : decode cX6_pin 66 = .ok (.aload_n 0, 1) := by decide +kernel
theorem dX6_pin_67 : decode cX6_pin 67 = .ok (.iload_n 1, 1) := by decide +kernel
theorem dX6_pin_68 : decode cX6_pin 68 = .ok (.invokevirtual 94, 3) := by decide +kernel
theorem dX6_pin_71 : decode cX6_pin 71 = .ok (.aload 5, 2) := by decide +kernel
theorem dX6_pin_73 : decode cX6_pin 73 = .ok (.iload 6, 2) := by decide +kernel
theorem dX6_pin_75 : decode cX6_pin 75 = .ok (.invokevirtual 97, 3) := by decide +kernel
theorem dX6_pin_78 : decode cX6_pin 78 = .ok (.aload_n 0, 1) := by decide +kernel
theorem dX6_pin_79 : decode cX6_pin 79 = .ok (.getfield 12, 3) := by decide +kernel
theorem dX6_pin_82 : decode cX6_pin 82 = .ok (.getfield 83, 3) := by decide +kernel
theorem dX6_pin_85 : decode cX6_pin 85 = .ok (.iload 6, 2) := by decide +kernel
theorem dX6_pin_87 : decode cX6_pin 87 = .ok (.iconst 1, 1) := by decide +kernel
theorem dX6_pin_88 : decode cX6_pin 88 = .ok (.bastore, 1) := by decide +kernel
theorem dX6_pin_89 : decode cX6_pin 89 = .ok (.aload_n 0, 1) := by decide +kernel
theorem dX6_pin_90 : decode cX6_pin 90 = .ok (.getfield 12, 3) := by decide +kernel
theorem dX6_pin_93 : decode cX6_pin 93 = .ok (.getfield 76, 3) := by decide +kernel
theorem dX6_pin_96 : decode cX6_pin 96 = .ok (.iload 6, 2) := by decide +kernel
theorem dX6_pin_98 : decode cX6_pin 98 = .ok (.iload_n 1, 1) := by decide +kernel
theorem dX6_pin_99 : decode cX6_pin 99 = .ok (.iastore, 1) := by decide +kernel
theorem dX6_pin_100 : decode cX6_pin 100 = .ok (.iconst 1, 1) := by decide +kernel
theorem dX6_pin_101 : decode cX6_pin 101 = .ok (.ireturn, 1) := by decide +kernel
set_option maxRecDepth 20000 in
theorem ggX6_cost_X6_isPrice : GoodIn wsX6_cost wsX6_isPrice := goodIn_r _ [11] (by decide +kernel) (by decide +kernel)
set_option maxRecDepth 20000 in
theorem gX6_cost_X6_isPrice : GoodIn wsX6_cost (va_wsS RX6 110 yX6_isPrice wsX6_isPrice) := goodIn_app (goodIn_of _ (by decide +kernel)) ggX6_cost_X6_isPrice
set_option maxRecDepth 20000 in
theorem ggX6_cost_X3_change : GoodIn wsX6_cost wsX3_change := goodIn_r _ [16, 17, 18, 19, 39, 40, 41] (by decide +kernel) (by decide +kernel)
set_option maxRecDepth 20000 in
theorem gX6_cost_X3_change : GoodIn wsX6_cost (wsV RX6 119 RX3 yX3_change wsX3_change) := goodIn_app (goodIn_of _ (by decide +kernel)) ggX6_cost_X3_change
theorem dX6_cost_0 : decode cX6_cost 0 = .ok (.iload_n 1, 1) := by decide +kernel
theorem dX6_cost_1 : decode cX6_cost 1 = .ok (.ifCond .lt 14, 3) := by decide +kernel
theorem dX6_cost_4 : decode cX6_cost 4 = .ok (.iload_n 1, 1) := by decide +kernel
theorem dX6_cost_5 : decode cX6_cost 5 = .ok (.aload_n 0, 1) := by decide +kernel
theorem dX6_cost_6 : decode cX6_cost 6 = .ok (.getfield 12, 3) := by decide +kernel
theorem dX6_cost_9 : decode cX6_cost 9 = .ok (.getfield 100, 3) := by decide +kernel
theorem dX6_cost_12 : decode cX6_cost 12 = .ok (.if_icmp .lt 13, 3) := by decide +kernel
theorem dX6_cost_15 : decode cX6_cost 15 = .ok (.new 103, 3) := by decide +kernel
theorem dX6_cost_18 : decode cX6_cost 18 = .ok (.dup, 1) := by decide +kernel
theorem dX6_cost_19 : decode cX6_cost 19 = .ok (.ldc 105, 2) := by decide +kernel
theorem dX6_cost_21 : decode cX6_cost 21 = .ok (.invokespecial 107, 3) := by decide +kernel
theorem dX6_cost_24 : decode cX6_cost 24 = .ok (.athrow, 1) := by decide +kernel
theorem dX6_cost_25 : decode cX6_cost 25 = .ok (.iload_n 2, 1) := by decide +kernel
theorem dX6_cost_26 : decode cX6_cost 26 = .ok (.invokestatic 110, 3) := by decide +kernel
theorem dX6_cost_29 : decode cX6_cost 29 = .ok (.ifCond .eq 18, 3) := by decide +kernel
theorem dX6_cost_32 : decode cX6_cost 32 = .ok (.iload_n 3, 1) := by decide +kernel
theorem dX6_cost_33 : decode cX6_cost 33 = .ok (.invokestatic 110, 3) := by decide +kernel
theorem dX6_cost_36 : decode cX6_cost 36 = .ok (.ifCond .eq 11, 3) := by decide +kernel
theorem dX6_cost_39 : decode cX6_cost 39 = .ok (.iload 4, 2) := by decide +kernel
theorem dX6_cost_41 : decode cX6_cost 41 = .ok (.invokestatic 110, 3) := by decide +kernel
theorem dX6_cost_44 : decode cX6_cost 44 = .ok (.ifCond .ne 13, 3) := by decide +kernel
theorem dX6_cost_47 : decode cX6_cost 47 = .ok (.new 114, 3) := by decide +kernel
theorem dX6_cost_50 : decode cX6_cost 50 = .ok (.dup, 1) := by decide +kernel
theorem dX6_cost_51 : decode cX6_cost 51 = .ok (.ldc 116, 2) := by decide +kernel
theorem dX6_cost_53 : decode cX6_cost 53 = .ok (.invokespecial 118, 3) := by decide +kernel
theorem dX6_cost_56 : decode cX6_cost 56 = .ok (.athrow, 1) := by decide +kernel
theorem dX6_cost_57 : decode cX6_cost 57 = .ok (.aload_n 0, 1) := by decide +kernel
theorem dX6_cost_58 : decode cX6_cost 58 = .ok (.getfield 21, 3) := by decide +kernel
theorem dX6_cost_61 : decode cX6_cost 61 = .ok (.iload_n 1, 1) := by decide +kernel
theorem dX6_cost_62 : decode cX6_cost 62 = .ok (.iload_n 2, 1) := by decide +kernel
theorem dX6_cost_63 : decode cX6_cost 63 = .ok (.iload_n 3, 1) := by decide +kernel
theorem dX6_cost_64 : decode cX6_cost 64 = .ok (.iload 4, 2) := by decide +kernel
theorem dX6_cost_66 : decode cX6_cost 66 = .ok (.invokevirtual 119, 3) := by decide +kernel
theorem dX6_cost_69 : decode cX6_cost 69 = .ok (.ireturn, 1) := by decide +kernel
set_option maxRecDepth 20000 in
theorem ggX6_run_X6_openNets : GoodIn wsX6_run wsX6_openNets := goodIn_r _ [7, 8, 9, 10, 11, 12, 13, 14, 15, 16, 201, 202, 203, 204, 205, 206, 207, 208, 209, 210, 211, 212, 213, 214, 215] (by decide +kernel) (by decide +kernel)
set_option maxRecDepth 20000 in
theorem gX6_run_X6_openNets : GoodIn wsX6_run (wsV RX6 125 RX6 yX6_openNets wsX6_openNets) := goodIn_app (goodIn_of _ (by decide +kernel)) ggX6_run_X6_openNets
set_option maxRecDepth 20000 in
theorem ggX6_run_X6_playRound : GoodIn wsX6_run wsX6_playRound := goodIn_r _ [20, 9, 21, 22, 3, 4, 5, 6, 7, 8, 10, 11, 12, 13, 14, 15, 16, 23, 24, 25, 26, 27, 28, 29, 30, 31, 32, 33, 34, 35, 36, 37, 38, 39, 40, 41, 42, 43, 44, 45, 46, 47, 48, 49, 50, 51, 52, 53, 54, 55, 56, 57, 58, 59, 60, 61, 62, 63, 64, 65, 66, 67, 68, 69, 70, 71, 72, 73, 74, 75, 76, 77, 78, 79, 80, 81, 82, 83, 84, 85, 86, 87, 88, 89, 90, 91, 92, 93, 94, 95, 96, 97, 98, 99, 100, 101, 102, 103, 104, 105, 106, 107, 108, 109, 110, 111, 112, 113, 114, 115, 116, 117, 118, 119, 120, 121, 122, 123, 124, 125, 126, 127, 128, 129, 130, 131, 132, 133, 134, 135, 136, 137, 138, 139, 140, 141, 142, 143, 144, 145, 146, 147, 148, 149, 150, 151, 152, 153, 154, 155, 156, 157, 158, 159, 160, 161, 162, 163, 164, 165, 166, 167, 168, 169, 170, 171, 172, 173, 174, 175, 176, 177, 178, 179, 180, 181, 182, 183, 184, 185, 186, 187, 188, 189, 190, 191, 192, 193, 201, 202, 203, 204, 205, 206, 207, 208, 209, 210, 211, 212, 213, 214, 215, 216, 217, 218, 219, 220, 221, 222, 223, 224, 225, 226, 227, 228, 229, 230, 231, 232, 233, 234, 235, 236, 237, 238, 239] (by decide +kernel) (by decide +kernel)
set_option maxRecDepth 20000 in
theorem gX6_run_X6_playRound : GoodIn wsX6_run (wsV RX6 129 RX6 yX6_playRound wsX6_playRound) := goodIn_app (goodIn_of _ (by decide +kernel)) ggX6_run_X6_playRound
set_option maxRecDepth 20000 in
theorem ggX6_run_J6_bitCount_0f7a4 : GoodIn wsX6_run wsJ6_bitCount_0f7a4 := goodIn_r _ [197, 198, 199, 200] (by decide +kernel) (by decide +kernel)
set_option maxRecDepth 20000 in
theorem gX6_run_J6_bitCount_0f7a4 : GoodIn wsX6_run (va_wsS RX6 132 yJ6_bitCount_0f7a4 wsJ6_bitCount_0f7a4) := goodIn_app (goodIn_of _ (by decide +kernel)) ggX6_run_J6_bitCount_0f7a4
theorem dX6_run_0 : decode cX6_run 0 = .ok (.iload_n 1, 1) := by decide +kernel
theorem dX6_run_1 : decode cX6_run 1 = .ok (.iconst 1, 1) := by decide +kernel
theorem dX6_run_2 : decode cX6_run 2 = .ok (.if_icmp .lt 9, 3) := by decide +kernel
theorem dX6_run_5 : decode cX6_run 5 = .ok (.iload_n 1, 1) := by decide +kernel
theorem dX6_run_6 : decode cX6_run 6 = .ok (.bipush 20, 2) := by decide +kernel
theorem dX6_run_8 : decode cX6_run 8 = .ok (.if_icmp .le 13, 3) := by decide +kernel
theorem dX6_run_11 : decode cX6_run 11 = .ok (.new 114, 3) := by decide +kernel
theorem dX6_run_14 : decode cX6_run 14 = .ok (.dup, 1) := by decide +kernel
theorem dX6_run_15 : decode cX6_run 15 = .ok (.ldc 123, 2) := by decide +kernel
theorem dX6_run_17 : decode cX6_run 17 = .ok (.invokespecial 118, 3) := by decide +kernel
theorem dX6_run_20 : decode cX6_run 20 = .ok (.athrow, 1) := by decide +kernel
theorem dX6_run_21 : decode cX6_run 21 = .ok (.iconst 0, 1) := by decide +kernel
theorem dX6_run_22 : decode cX6_run 22 = .ok (.istore_n 2, 1) := by decide +kernel
theorem dX6_run_23 : decode cX6_run 23 = .ok (.iload_n 2, 1) := by decide +kernel
theorem dX6_run_24 : decode cX6_run 24 = .ok (.iload_n 1, 1) := by decide +kernel
theorem dX6_run_25 : decode cX6_run 25 = .ok (.if_icmp .ge 20, 3) := by decide +kernel
theorem dX6_run_28 : decode cX6_run 28 = .ok (.aload_n 0, 1) := by decide +kernel
theorem dX6_run_29 : decode cX6_run 29 = .ok (.invokevirtual 125, 3) := by decide +kernel
theorem dX6_run_32 : decode cX6_run 32 = .ok (.ifCond .eq 13, 3) := by decide +kernel
theorem dX6_run_35 : decode cX6_run 35 = .ok (.aload_n 0, 1) := by decide +kernel
theorem dX6_run_36 : decode cX6_run 36 = .ok (.invokevirtual 129, 3) := by decide +kernel
theorem dX6_run_39 : decode cX6_run 39 = .ok (.iinc 2 1, 3) := by decide +kernel
theorem dX6_run_42 : decode cX6_run 42 = .ok (.goto (-19), 3) := by decide +kernel
theorem dX6_run_45 : decode cX6_run 45 = .ok (.aload_n 0, 1) := by decide +kernel
theorem dX6_run_46 : decode cX6_run 46 = .ok (.invokevirtual 125, 3) := by decide +kernel
theorem dX6_run_49 : decode cX6_run 49 = .ok (.invokestatic 132, 3) := by decide +kernel
theorem dX6_run_52 : decode cX6_run 52 = .ok (.ireturn, 1) := by decide +kernel
set_option maxRecDepth 20000 in
theorem ggX6_piece_X6_netAt : GoodIn wsX6_piece wsX6_netAt := goodIn_ca (goodIn_r _ [9, 1, 2, 10, 11, 41, 42, 43, 44, 45, 46, 47, 48, 49] (by decide +kernel) (by decide +kernel)) (goodIn_sub (fun _ h => List.mem_cons_of_mem _ (List.mem_append_right _ h)) (by decide +kernel))
set_option maxRecDepth 20000 in
theorem gX6_piece_X6_netAt : GoodIn wsX6_piece (wsV RX6 79 RX6 yX6_netAt wsX6_netAt) := goodIn_app (goodIn_of _ (by decide +kernel)) ggX6_piece_X6_netAt
set_option maxRecDepth 20000 in
theorem ggX6_piece_X1_heldAtTurn : GoodIn wsX6_piece wsX1_heldAtTurn := goodIn_r _ [16, 17, 18, 19, 50, 51, 52, 53, 54, 55, 56, 57, 58, 59] (by decide +kernel) (by decide +kernel)
set_option maxRecDepth 20000 in
theorem gX6_piece_X1_heldAtTurn : GoodIn wsX6_piece (wsV RX6 142 RX1 yX1_heldAtTurn wsX1_heldAtTurn) := goodIn_app (goodIn_of _ (by decide +kernel)) ggX6_piece_X1_heldAtTurn
set_option maxRecDepth 20000 in
theorem ggX6_piece_X1_layerOf : GoodIn wsX6_piece wsX1_layerOf := goodIn_r _ [23, 24, 50, 51, 52, 53, 54, 55, 56, 57, 58, 59] (by decide +kernel) (by decide +kernel)
set_option maxRecDepth 20000 in
theorem gX6_piece_X1_layerOf : GoodIn wsX6_piece (wsV RX6 148 RX1 yX1_layerOf wsX1_layerOf) := goodIn_app (goodIn_of _ (by decide +kernel)) ggX6_piece_X1_layerOf
set_option maxRecDepth 20000 in
theorem ggX6_piece_X1_columnOf : GoodIn wsX6_piece wsX1_columnOf := goodIn_r _ [28, 29, 50, 51, 52, 53, 54, 55, 56, 57, 58, 59] (by decide +kernel) (by decide +kernel)
set_option maxRecDepth 20000 in
theorem gX6_piece_X1_columnOf : GoodIn wsX6_piece (wsV RX6 151 RX1 yX1_columnOf wsX1_columnOf) := goodIn_app (goodIn_of _ (by decide +kernel)) ggX6_piece_X1_columnOf
set_option maxRecDepth 20000 in
theorem ggX6_piece_X1_rowOf : GoodIn wsX6_piece wsX1_rowOf := goodIn_r _ [33, 29, 34, 50, 51, 52, 53, 54, 55, 56, 57, 58, 59] (by decide +kernel) (by decide +kernel)
set_option maxRecDepth 20000 in
theorem gX6_piece_X1_rowOf : GoodIn wsX6_piece (wsV RX6 154 RX1 yX1_rowOf wsX1_rowOf) := goodIn_app (goodIn_of _ (by decide +kernel)) ggX6_piece_X1_rowOf
theorem dX6_piece_0 : decode cX6_piece 0 = .ok (.aload_n 0, 1) := by decide +kernel
theorem dX6_piece_1 : decode cX6_piece 1 = .ok (.iload_n 1, 1) := by decide +kernel
theorem dX6_piece_2 : decode cX6_piece 2 = .ok (.invokevirtual 79, 3) := by decide +kernel
theorem dX6_piece_5 : decode cX6_piece 5 = .ok (.astore 4, 2) := by decide +kernel
theorem dX6_piece_7 : decode cX6_piece 7 = .ok (.aload 4, 2) := by decide +kernel
theorem dX6_piece_9 : decode cX6_piece 9 = .ok (.getfield 138, 3) := by decide +kernel
theorem dX6_piece_12 : decode cX6_piece 12 = .ok (.ifCond .eq 15, 3) := by decide +kernel
theorem dX6_piece_15 : decode cX6_piece 15 = .ok (.aload_n 0, 1) := by decide +kernel
theorem dX6_piece_16 : decode cX6_piece 16 = .ok (.getfield 12, 3) := by decide +kernel
theorem dX6_piece_19 : decode cX6_piece 19 = .ok (.iload_n 1, 1) := by decide +kernel
theorem dX6_piece_20 : decode cX6_piece 20 = .ok (.iload_n 2, 1) := by decide +kernel
theorem dX6_piece_21 : decode cX6_piece 21 = .ok (.invokevirtual 142, 3) := by decide +kernel
theorem dX6_piece_24 : decode cX6_piece 24 = .ok (.goto 4, 3) := by decide +kernel
theorem dX6_piece_27 : decode cX6_piece 27 = .ok (.iconst (-1), 1) := by decide +kernel
theorem dX6_piece_28 : decode cX6_piece 28 = .ok (.istore 5, 2) := by decide +kernel
theorem dX6_piece_30 : decode cX6_piece 30 = .ok (.iload 5, 2) := by decide +kernel
theorem dX6_piece_32 : decode cX6_piece 32 = .ok (.iconst (-1), 1) := by decide +kernel
theorem dX6_piece_33 : decode cX6_piece 33 = .ok (.if_icmp .eq 12, 3) := by decide +kernel
theorem dX6_piece_36 : decode cX6_piece 36 = .ok (.iload_n 3, 1) := by decide +kernel
theorem dX6_piece_37 : decode cX6_piece 37 = .ok (.ifCond .lt 8, 3) := by decide +kernel
theorem dX6_piece_40 : decode cX6_piece 40 = .ok (.iload_n 3, 1) := by decide +kernel
theorem dX6_piece_41 : decode cX6_piece 41 = .ok (.iconst 2, 1) := by decide +kernel
theorem dX6_piece_42 : decode cX6_piece 42 = .ok (.if_icmp .le 13, 3) := by decide +kernel
theorem dX6_piece_45 : decode cX6_piece 45 = .ok (.new 103, 3) := by decide +kernel
theorem dX6_piece_48 : decode cX6_piece 48 = .ok (.dup, 1) := by decide +kernel
theorem dX6_piece_49 : decode cX6_piece 49 = .ok (.ldc 146, 2) := by decide +kernel
theorem dX6_piece_51 : decode cX6_piece 51 = .ok (.invokespecial 107, 3) := by decide +kernel
theorem dX6_piece_54 : decode cX6_piece 54 = .ok (.athrow, 1) := by decide +kernel
theorem dX6_piece_55 : decode cX6_piece 55 = .ok (.iload_n 3, 1) := by decide +kernel
theorem dX6_piece_56 : decode cX6_piece 56 = .ok (.ifCond .ne 13, 3) := by decide +kernel
theorem dX6_piece_59 : decode cX6_piece 59 = .ok (.aload_n 0, 1) := by decide +kernel
theorem dX6_piece_60 : decode cX6_piece 60 = .ok (.getfield 12, 3) := by decide +kernel
theorem dX6_piece_63 : decode cX6_piece 63 = .ok (.iload 5, 2) := by decide +kernel
theorem dX6_piece_65 : decode cX6_piece 65 = .ok (.invokevirtual 148, 3) := by decide +kernel
theorem dX6_piece_68 : decode cX6_piece 68 = .ok (.ireturn, 1) := by decide +kernel
theorem dX6_piece_69 : decode cX6_piece 69 = .ok (.iload_n 3, 1) := by decide +kernel
theorem dX6_piece_70 : decode cX6_piece 70 = .ok (.iconst 1, 1) := by decide +kernel
theorem dX6_piece_71 : decode cX6_piece 71 = .ok (.if_icmp .ne 15, 3) := by decide +kernel
theorem dX6_piece_74 : decode cX6_piece 74 = .ok (.aload_n 0, 1) := by decide +kernel
theorem dX6_piece_75 : decode cX6_piece 75 = .ok (.getfield 12, 3) := by decide +kernel
theorem dX6_piece_78 : decode cX6_piece 78 = .ok (.iload 5, 2) := by decide +kernel
theorem dX6_piece_80 : decode cX6_piece 80 = .ok (.invokevirtual 151, 3) := by decide +kernel
theorem dX6_piece_83 : decode cX6_piece 83 = .ok (.goto 12, 3) := by decide +kernel
theorem dX6_piece_86 : decode cX6_piece 86 = .ok (.aload_n 0, 1) := by decide +kernel
theorem dX6_piece_87 : decode cX6_piece 87 = .ok (.getfield 12, 3) := by decide +kernel
theorem dX6_piece_90 : decode cX6_piece 90 = .ok (.iload 5, 2) := by decide +kernel
theorem dX6_piece_92 : decode cX6_piece 92 = .ok (.invokevirtual 154, 3) := by decide +kernel
theorem dX6_piece_95 : decode cX6_piece 95 = .ok (.ireturn, 1) := by decide +kernel
set_option maxRecDepth 20000 in
theorem ggX6_costOf_X6_netAt : GoodIn wsX6_costOf wsX6_netAt := goodIn_ca (goodIn_r _ [8, 9, 10, 11, 12, 19, 20, 21, 22, 23, 24, 25, 26, 27] (by decide +kernel) (by decide +kernel)) (goodIn_sub (fun _ h => List.mem_cons_of_mem _ (List.mem_append_right _ h)) (by decide +kernel))
set_option maxRecDepth 20000 in
theorem gX6_costOf_X6_netAt : GoodIn wsX6_costOf (wsV RX6 79 RX6 yX6_netAt wsX6_netAt) := goodIn_app (goodIn_of _ (by decide +kernel)) ggX6_costOf_X6_netAt
theorem dX6_costOf_0 : decode cX6_costOf 0 = .ok (.aload_n 0, 1) := by decide +kernel
theorem dX6_costOf_1 : decode cX6_costOf 1 = .ok (.iload_n 1, 1) := by decide +kernel
theorem dX6_costOf_2 : decode cX6_costOf 2 = .ok (.invokevirtual 79, 3) := by decide +kernel
theorem dX6_costOf_5 : decode cX6_costOf 5 = .ok (.astore_n 2, 1) := by decide +kernel
theorem dX6_costOf_6 : decode cX6_costOf 6 = .ok (.aload_n 2, 1) := by decide +kernel
theorem dX6_costOf_7 : decode cX6_costOf 7 = .ok (.getfield 138, 3) := by decide +kernel
theorem dX6_costOf_10 : decode cX6_costOf 10 = .ok (.ifCond .eq 10, 3) := by decide +kernel
theorem dX6_costOf_13 : decode cX6_costOf 13 = .ok (.aload_n 2, 1) := by decide +kernel
theorem dX6_costOf_14 : decode cX6_costOf 14 = .ok (.getfield 157, 3) := by decide +kernel
theorem dX6_costOf_17 : decode cX6_costOf 17 = .ok (.goto 6, 3) := by decide +kernel
theorem dX6_costOf_20 : decode cX6_costOf 20 = .ok (.ldc2_w 160, 3) := by decide +kernel
theorem dX6_costOf_23 : decode cX6_costOf 23 = .ok (.lreturn, 1) := by decide +kernel
set_option maxRecDepth 20000 in
theorem ggX6_ripped_X6_netAt : GoodIn wsX6_ripped wsX6_netAt := goodIn_ca (goodIn_r _ [6, 7, 8, 9, 10, 17, 18, 19, 20, 21, 22, 23, 24, 25] (by decide +kernel) (by decide +kernel)) (goodIn_sub (fun _ h => List.mem_cons_of_mem _ (List.mem_append_right _ h)) (by decide +kernel))
set_option maxRecDepth 20000 in
theorem gX6_ripped_X6_netAt : GoodIn wsX6_ripped (wsV RX6 79 RX6 yX6_netAt wsX6_netAt) := goodIn_app (goodIn_of _ (by decide +kernel)) ggX6_ripped_X6_netAt
theorem dX6_ripped_0 : decode cX6_ripped 0 = .ok (.aload_n 0, 1) := by decide +kernel
theorem dX6_ripped_1 : decode cX6_ripped 1 = .ok (.iload_n 1, 1) := by decide +kernel
theorem dX6_ripped_2 : decode cX6_ripped 2 = .ok (.invokevirtual 79, 3) := by decide +kernel
theorem dX6_ripped_5 : decode cX6_ripped 5 = .ok (.getfield 162, 3) := by decide +kernel
theorem dX6_ripped_8 : decode cX6_ripped 8 = .ok (.ireturn, 1) := by decide +kernel
set_option maxRecDepth 20000 in
theorem ggX6_history_X6_cellAt : GoodIn wsX6_history wsX6_cellAt := goodIn_ca (goodIn_r _ [7, 8, 9, 1, 10, 11, 12, 13, 14, 15, 16, 17, 18, 19, 20, 21, 22, 23, 24, 25, 26, 27, 28, 29, 30, 31, 32, 33, 34, 35, 36, 37, 38, 39, 40] (by decide +kernel) (by decide +kernel)) (goodIn_sub (fun _ h => List.mem_cons_of_mem _ (List.mem_append_right _ h)) (by decide +kernel))
set_option maxRecDepth 20000 in
theorem gX6_history_X6_cellAt : GoodIn wsX6_history (wsV RX6 68 RX6 yX6_cellAt wsX6_cellAt) := goodIn_app (goodIn_of _ (by decide +kernel)) ggX6_history_X6_cellAt
theorem dX6_history_0 : decode cX6_history 0 = .ok (.aload_n 0, 1) := by decide +kernel
theorem dX6_history_1 : decode cX6_history 1 = .ok (.getfield 12, 3) := by decide +kernel
theorem dX6_history_4 : decode cX6_history 4 = .ok (.getfield 165, 3) := by decide +kernel
theorem dX6_history_7 : decode cX6_history 7 = .ok (.aload_n 0, 1) := by decide +kernel
theorem dX6_history_8 : decode cX6_history 8 = .ok (.iload_n 1, 1) := by decide +kernel
theorem dX6_history_9 : decode cX6_history 9 = .ok (.iload_n 2, 1) := by decide +kernel
theorem dX6_history_10 : decode cX6_history 10 = .ok (.iload_n 3, 1) := by decide +kernel
theorem dX6_history_11 : decode cX6_history 11 = .ok (.invokevirtual 68, 3) := by decide +kernel
theorem dX6_history_14 : decode cX6_history 14 = .ok (.laload, 1) := by decide +kernel
theorem dX6_history_15 : decode cX6_history 15 = .ok (.lreturn, 1) := by decide +kernel
set_option maxRecDepth 20000 in
theorem ggX6_open_X6_openNets : GoodIn wsX6_open wsX6_openNets := goodIn_r _ [5, 6, 7, 8, 9, 10, 11, 12, 13, 14, 18, 19, 20, 21, 22, 23, 24, 25, 26, 27, 28, 29, 30, 31, 32] (by decide +kernel) (by decide +kernel)
set_option maxRecDepth 20000 in
theorem gX6_open_X6_openNets : GoodIn wsX6_open (wsV RX6 125 RX6 yX6_openNets wsX6_openNets) := goodIn_app (goodIn_of _ (by decide +kernel)) ggX6_open_X6_openNets
set_option maxRecDepth 20000 in
theorem ggX6_open_X6_memberAt : GoodIn wsX6_open wsX6_memberAt := goodIn_r _ [17] (by decide +kernel) (by decide +kernel)
set_option maxRecDepth 20000 in
theorem gX6_open_X6_memberAt : GoodIn wsX6_open (va_wsS RX6 169 yX6_memberAt wsX6_memberAt) := goodIn_app (goodIn_of _ (by decide +kernel)) ggX6_open_X6_memberAt
theorem dX6_open_0 : decode cX6_open 0 = .ok (.aload_n 0, 1) := by decide +kernel
theorem dX6_open_1 : decode cX6_open 1 = .ok (.invokevirtual 125, 3) := by decide +kernel
theorem dX6_open_4 : decode cX6_open 4 = .ok (.iload_n 1, 1) := by decide +kernel
theorem dX6_open_5 : decode cX6_open 5 = .ok (.invokestatic 169, 3) := by decide +kernel
theorem dX6_open_8 : decode cX6_open 8 = .ok (.ireturn, 1) := by decide +kernel
set_option maxRecDepth 20000 in
theorem ggX6_blocking_X6_netAt : GoodIn wsX6_blocking wsX6_netAt := goodIn_ca (goodIn_r _ [6, 7, 8, 9, 10, 20, 21, 22, 23, 24, 25, 26, 27, 28] (by decide +kernel) (by decide +kernel)) (goodIn_sub (fun _ h => List.mem_cons_of_mem _ (List.mem_append_right _ h)) (by decide +kernel))
set_option maxRecDepth 20000 in
theorem gX6_blocking_X6_netAt : GoodIn wsX6_blocking (wsV RX6 79 RX6 yX6_netAt wsX6_netAt) := goodIn_app (goodIn_of _ (by decide +kernel)) ggX6_blocking_X6_netAt
set_option maxRecDepth 20000 in
theorem ggX6_blocking_X6_memberAt : GoodIn wsX6_blocking wsX6_memberAt := goodIn_r _ [13] (by decide +kernel) (by decide +kernel)
set_option maxRecDepth 20000 in
theorem gX6_blocking_X6_memberAt : GoodIn wsX6_blocking (va_wsS RX6 169 yX6_memberAt wsX6_memberAt) := goodIn_app (goodIn_of _ (by decide +kernel)) ggX6_blocking_X6_memberAt
theorem dX6_blocking_0 : decode cX6_blocking 0 = .ok (.aload_n 0, 1) := by decide +kernel
theorem dX6_blocking_1 : decode cX6_blocking 1 = .ok (.iload_n 1, 1) := by decide +kernel
theorem dX6_blocking_2 : decode cX6_blocking 2 = .ok (.invokevirtual 79, 3) := by decide +kernel
theorem dX6_blocking_5 : decode cX6_blocking 5 = .ok (.getfield 172, 3) := by decide +kernel
theorem dX6_blocking_8 : decode cX6_blocking 8 = .ok (.iload_n 2, 1) := by decide +kernel
theorem dX6_blocking_9 : decode cX6_blocking 9 = .ok (.invokestatic 169, 3) := by decide +kernel
theorem dX6_blocking_12 : decode cX6_blocking 12 = .ok (.ireturn, 1) := by decide +kernel
set_option maxRecDepth 20000 in
theorem ggX6_joined_X6_netAt : GoodIn wsX6_joined wsX6_netAt := goodIn_ca (goodIn_r _ [6, 7, 8, 9, 10, 17, 18, 19, 20, 21, 22, 23, 24, 25] (by decide +kernel) (by decide +kernel)) (goodIn_sub (fun _ h => List.mem_cons_of_mem _ (List.mem_append_right _ h)) (by decide +kernel))
set_option maxRecDepth 20000 in
theorem gX6_joined_X6_netAt : GoodIn wsX6_joined (wsV RX6 79 RX6 yX6_netAt wsX6_netAt) := goodIn_app (goodIn_of _ (by decide +kernel)) ggX6_joined_X6_netAt
theorem dX6_joined_0 : decode cX6_joined 0 = .ok (.aload_n 0, 1) := by decide +kernel
theorem dX6_joined_1 : decode cX6_joined 1 = .ok (.iload_n 1, 1) := by decide +kernel
theorem dX6_joined_2 : decode cX6_joined 2 = .ok (.invokevirtual 79, 3) := by decide +kernel
theorem dX6_joined_5 : decode cX6_joined 5 = .ok (.getfield 138, 3) := by decide +kernel
theorem dX6_joined_8 : decode cX6_joined 8 = .ok (.ireturn, 1) := by decide +kernel
set_option maxRecDepth 20000 in
theorem ggX6_corridor_X6_netAt : GoodIn wsX6_corridor wsX6_netAt := goodIn_ca (goodIn_r _ [9, 10, 11, 12, 13, 28, 29, 30, 31, 32, 33, 34, 35, 36] (by decide +kernel) (by decide +kernel)) (goodIn_sub (fun _ h => List.mem_cons_of_mem _ (List.mem_append_right _ h)) (by decide +kernel))
set_option maxRecDepth 20000 in
theorem gX6_corridor_X6_netAt : GoodIn wsX6_corridor (wsV RX6 79 RX6 yX6_netAt wsX6_netAt) := goodIn_app (goodIn_of _ (by decide +kernel)) ggX6_corridor_X6_netAt
set_option maxRecDepth 20000 in
theorem ggX6_corridor_X1_rowOf : GoodIn wsX6_corridor wsX1_rowOf := goodIn_r _ [18, 19, 20, 37, 38, 39, 40, 41, 42, 43, 44, 45, 46] (by decide +kernel) (by decide +kernel)
set_option maxRecDepth 20000 in
theorem gX6_corridor_X1_rowOf : GoodIn wsX6_corridor (wsV RX6 154 RX1 yX1_rowOf wsX1_rowOf) := goodIn_app (goodIn_of _ (by decide +kernel)) ggX6_corridor_X1_rowOf
set_option maxRecDepth 20000 in
theorem ggX6_corridor_X1_columnOf : GoodIn wsX6_corridor wsX1_columnOf := goodIn_r _ [24, 19, 37, 38, 39, 40, 41, 42, 43, 44, 45, 46] (by decide +kernel) (by decide +kernel)
set_option maxRecDepth 20000 in
theorem gX6_corridor_X1_columnOf : GoodIn wsX6_corridor (wsV RX6 151 RX1 yX1_columnOf wsX1_columnOf) := goodIn_app (goodIn_of _ (by decide +kernel)) ggX6_corridor_X1_columnOf
set_option maxRecDepth 20000 in
theorem ggX6_corridor_X6_memberAt : GoodIn wsX6_corridor wsX6_memberAt := goodIn_r _ [27] (by decide +kernel) (by decide +kernel)
set_option maxRecDepth 20000 in
theorem gX6_corridor_X6_memberAt : GoodIn wsX6_corridor (va_wsS RX6 169 yX6_memberAt wsX6_memberAt) := goodIn_app (goodIn_of _ (by decide +kernel)) ggX6_corridor_X6_memberAt
theorem dX6_corridor_0 : decode cX6_corridor 0 = .ok (.aload_n 0, 1) := by decide +kernel
theorem dX6_corridor_1 : decode cX6_corridor 1 = .ok (.iload_n 1, 1) := by decide +kernel
theorem dX6_corridor_2 : decode cX6_corridor 2 = .ok (.invokevirtual 79, 3) := by decide +kernel
theorem dX6_corridor_5 : decode cX6_corridor 5 = .ok (.pop, 1) := by decide +kernel
theorem dX6_corridor_6 : decode cX6_corridor 6 = .ok (.aload_n 0, 1) := by decide +kernel
theorem dX6_corridor_7 : decode cX6_corridor 7 = .ok (.getfield 12, 3) := by decide +kernel
theorem dX6_corridor_10 : decode cX6_corridor 10 = .ok (.getfield 175, 3) := by decide +kernel
theorem dX6_corridor_13 : decode cX6_corridor 13 = .ok (.iconst 4, 1) := by decide +kernel
theorem dX6_corridor_14 : decode cX6_corridor 14 = .ok (.iadd, 1) := by decide +kernel
theorem dX6_corridor_15 : decode cX6_corridor 15 = .ok (.iconst 1, 1) := by decide +kernel
theorem dX6_corridor_16 : decode cX6_corridor 16 = .ok (.isub, 1) := by decide +kernel
theorem dX6_corridor_17 : decode cX6_corridor 17 = .ok (.iconst 4, 1) := by decide +kernel
theorem dX6_corridor_18 : decode cX6_corridor 18 = .ok (.idiv, 1) := by decide +kernel
theorem dX6_corridor_19 : decode cX6_corridor 19 = .ok (.istore_n 3, 1) := by decide +kernel
theorem dX6_corridor_20 : decode cX6_corridor 20 = .ok (.iconst 0, 1) := by decide +kernel
theorem dX6_corridor_21 : decode cX6_corridor 21 = .ok (.istore 4, 2) := by decide +kernel
theorem dX6_corridor_23 : decode cX6_corridor 23 = .ok (.iconst 0, 1) := by decide +kernel
theorem dX6_corridor_24 : decode cX6_corridor 24 = .ok (.istore 5, 2) := by decide +kernel
theorem dX6_corridor_26 : decode cX6_corridor 26 = .ok (.iload 5, 2) := by decide +kernel
theorem dX6_corridor_28 : decode cX6_corridor 28 = .ok (.aload_n 0, 1) := by decide +kernel
theorem dX6_corridor_29 : decode cX6_corridor 29 = .ok (.getfield 12, 3) := by decide +kernel
theorem dX6_corridor_32 : decode cX6_corridor 32 = .ok (.getfield 36, 3) := by decide +kernel
theorem dX6_corridor_35 : decode cX6_corridor 35 = .ok (.if_icmp .ge 55, 3) := by decide +kernel
theorem dX6_corridor_38 : decode cX6_corridor 38 = .ok (.aload_n 0, 1) := by decide +kernel
theorem dX6_corridor_39 : decode cX6_corridor 39 = .ok (.getfield 12, 3) := by decide +kernel
theorem dX6_corridor_42 : decode cX6_corridor 42 = .ok (.getfield 76, 3) := by decide +kernel
theorem dX6_corridor_45 : decode cX6_corridor 45 = .ok (.iload 5, 2) := by decide +kernel
theorem dX6_corridor_47 : decode cX6_corridor 47 = .ok (.iaload, 1) := by decide +kernel
theorem dX6_corridor_48 : decode cX6_corridor 48 = .ok (.iload_n 1, 1) := by decide +kernel
theorem dX6_corridor_49 : decode cX6_corridor 49 = .ok (.if_icmp .ne 35, 3) := by decide +kernel
theorem dX6_corridor_52 : decode cX6_corridor 52 = .ok (.iload 4, 2) := by decide +kernel
theorem dX6_corridor_54 : decode cX6_corridor 54 = .ok (.iconst 1, 1) := by decide +kernel
theorem dX6_corridor_55 : decode cX6_corridor 55 = .ok (.aload_n 0, 1) := by decide +kernel
theorem dX6_corridor_56 : decode cX6_corridor 56 = .ok (.getfield 12, 3) := by decide +kernel
theorem dX6_corridor_59 : decode cX6_corridor 59 = .ok (.iload 5, 2) := by decide +kernel
theorem dX6_corridor_61 : decode cX6_corridor 61 = .ok (.invokevirtual 154, 3) := by decide +kernel
theorem dX6_corridor_64 : decode cX6_corridor 64 = .ok (.iconst 4, 1) := by decide +kernel
theorem dX6_corridor_65 : decode cX6_corridor 65 = .ok (.idiv, 1) := by decide +kernel
theorem dX6_corridor_66 : decode cX6_corridor 66 = .ok (.iload_n 3, 1) := by decide +kernel
theorem dX6_corridor_67 : decode cX6_corridor 67 = .ok (.imul, 1) := by decide +kernel
theorem dX6_corridor_68 : decode cX6_corridor 68 = .ok (.aload_n 0, 1) := by decide +kernel
theorem dX6_corridor_69 : decode cX6_corridor 69 = .ok (.getfield 12, 3) := by decide +kernel
theorem dX6_corridor_72 : decode cX6_corridor 72 = .ok (.iload 5, 2) := by decide +kernel
theorem dX6_corridor_74 : decode cX6_corridor 74 = .ok (.invokevirtual 151, 3) := by decide +kernel
theorem dX6_corridor_77 : decode cX6_corridor 77 = .ok (.iconst 4, 1) := by decide +kernel
theorem dX6_corridor_78 : decode cX6_corridor 78 = .ok (.idiv, 1) := by decide +kernel
theorem dX6_corridor_79 : decode cX6_corridor 79 = .ok (.iadd, 1) := by decide +kernel
theorem dX6_corridor_80 : decode cX6_corridor 80 = .ok (.ishl, 1) := by decide +kernel
theorem dX6_corridor_81 : decode cX6_corridor 81 = .ok (.ior, 1) := by decide +kernel
theorem dX6_corridor_82 : decode cX6_corridor 82 = .ok (.istore 4, 2) := by decide +kernel
theorem dX6_corridor_84 : decode cX6_corridor 84 = .ok (.iinc 5 1, 3) := by decide +kernel
theorem dX6_corridor_87 : decode cX6_corridor 87 = .ok (.goto (-61), 3) := by decide +kernel
theorem dX6_corridor_90 : decode cX6_corridor 90 = .ok (.iload 4, 2) := by decide +kernel
theorem dX6_corridor_92 : decode cX6_corridor 92 = .ok (.iload_n 2, 1) := by decide +kernel
theorem dX6_corridor_93 : decode cX6_corridor 93 = .ok (.invokestatic 169, 3) := by decide +kernel
theorem dX6_corridor_96 : decode cX6_corridor 96 = .ok (.ireturn, 1) := by decide +kernel
theorem dX6_round_0 : decode cX6_round 0 = .ok (.aload_n 0, 1) := by decide +kernel
theorem dX6_round_1 : decode cX6_round 1 = .ok (.getfield 61, 3) := by decide +kernel
theorem dX6_round_4 : decode cX6_round 4 = .ok (.ireturn, 1) := by decide +kernel
set_option maxRecDepth 20000 in
theorem ggX6_band_X6_netAt : GoodIn wsX6_band wsX6_netAt := goodIn_ca (goodIn_r _ [9, 10, 11, 12, 13, 42, 43, 44, 45, 46, 47, 48, 49, 50] (by decide +kernel) (by decide +kernel)) (goodIn_sub (fun _ h => List.mem_cons_of_mem _ (List.mem_append_right _ h)) (by decide +kernel))
set_option maxRecDepth 20000 in
theorem gX6_band_X6_netAt : GoodIn wsX6_band (wsV RX6 79 RX6 yX6_netAt wsX6_netAt) := goodIn_app (goodIn_of _ (by decide +kernel)) ggX6_band_X6_netAt
set_option maxRecDepth 20000 in
theorem ggX6_band_X6_hasFreeBends : GoodIn wsX6_band wsX6_hasFreeBends := goodIn_r _ [17, 2, 4, 18, 19, 20, 21, 22, 23, 24, 25, 26, 27, 28, 8, 29, 30, 31, 32, 33, 34, 35, 42, 43, 44, 45, 46, 47, 48, 49, 50, 51, 52, 53, 54, 55, 56, 57, 58, 59, 60] (by decide +kernel) (by decide +kernel)
set_option maxRecDepth 20000 in
theorem gX6_band_X6_hasFreeBends : GoodIn wsX6_band (wsV RX6 178 RX6 yX6_hasFreeBends wsX6_hasFreeBends) := goodIn_app (goodIn_of _ (by decide +kernel)) ggX6_band_X6_hasFreeBends
theorem dX6_band_0 : decode cX6_band 0 = .ok (.aload_n 0, 1) := by decide +kernel
theorem dX6_band_1 : decode cX6_band 1 = .ok (.iload_n 1, 1) := by decide +kernel
theorem dX6_band_2 : decode cX6_band 2 = .ok (.invokevirtual 79, 3) := by decide +kernel
theorem dX6_band_5 : decode cX6_band 5 = .ok (.getfield 138, 3) := by decide +kernel
theorem dX6_band_8 : decode cX6_band 8 = .ok (.ifCond .ne 5, 3) := by decide +kernel
theorem dX6_band_11 : decode cX6_band 11 = .ok (.iconst 0, 1) := by decide +kernel
theorem dX6_band_12 : decode cX6_band 12 = .ok (.ireturn, 1) := by decide +kernel
theorem dX6_band_13 : decode cX6_band 13 = .ok (.iconst 0, 1) := by decide +kernel
theorem dX6_band_14 : decode cX6_band 14 = .ok (.istore_n 2, 1) := by decide +kernel
theorem dX6_band_15 : decode cX6_band 15 = .ok (.iload_n 2, 1) := by decide +kernel
theorem dX6_band_16 : decode cX6_band 16 = .ok (.aload_n 0, 1) := by decide +kernel
theorem dX6_band_17 : decode cX6_band 17 = .ok (.getfield 12, 3) := by decide +kernel
theorem dX6_band_20 : decode cX6_band 20 = .ok (.getfield 36, 3) := by decide +kernel
theorem dX6_band_23 : decode cX6_band 23 = .ok (.if_icmp .ge 33, 3) := by decide +kernel
theorem dX6_band_26 : decode cX6_band 26 = .ok (.aload_n 0, 1) := by decide +kernel
theorem dX6_band_27 : decode cX6_band 27 = .ok (.getfield 12, 3) := by decide +kernel
theorem dX6_band_30 : decode cX6_band 30 = .ok (.getfield 76, 3) := by decide +kernel
theorem dX6_band_33 : decode cX6_band 33 = .ok (.iload_n 2, 1) := by decide +kernel
theorem dX6_band_34 : decode cX6_band 34 = .ok (.iaload, 1) := by decide +kernel
theorem dX6_band_35 : decode cX6_band 35 = .ok (.iload_n 1, 1) := by decide +kernel
theorem dX6_band_36 : decode cX6_band 36 = .ok (.if_icmp .ne 14, 3) := by decide +kernel
theorem dX6_band_39 : decode cX6_band 39 = .ok (.aload_n 0, 1) := by decide +kernel
theorem dX6_band_40 : decode cX6_band 40 = .ok (.iload_n 2, 1) := by decide +kernel
theorem dX6_band_41 : decode cX6_band 41 = .ok (.iload_n 1, 1) := by decide +kernel
theorem dX6_band_42 : decode cX6_band 42 = .ok (.invokevirtual 178, 3) := by decide +kernel
theorem dX6_band_45 : decode cX6_band 45 = .ok (.ifCond .ne 5, 3) := by decide +kernel
theorem dX6_band_48 : decode cX6_band 48 = .ok (.iconst 0, 1) := by decide +kernel
theorem dX6_band_49 : decode cX6_band 49 = .ok (.ireturn, 1) := by decide +kernel
theorem dX6_band_50 : decode cX6_band 50 = .ok (.iinc 2 1, 3) := by decide +kernel
theorem dX6_band_53 : decode cX6_band 53 = .ok (.goto (-38), 3) := by decide +kernel
theorem dX6_band_56 : decode cX6_band 56 = .ok (.iconst 1, 1) := by decide +kernel
theorem dX6_band_57 : decode cX6_band 57 = .ok (.ireturn, 1) := by decide +kernel
theorem dX6_netAt_0 : decode cX6_netAt 0 = .ok (.iload_n 1, 1) := by decide +kernel
theorem dX6_netAt_1 : decode cX6_netAt 1 = .ok (.ifCond .lt 11, 3) := by decide +kernel
theorem dX6_netAt_4 : decode cX6_netAt 4 = .ok (.iload_n 1, 1) := by decide +kernel
theorem dX6_netAt_5 : decode cX6_netAt 5 = .ok (.aload_n 0, 1) := by decide +kernel
theorem dX6_netAt_6 : decode cX6_netAt 6 = .ok (.getfield 58, 3) := by decide +kernel
theorem dX6_netAt_9 : decode cX6_netAt 9 = .ok (.if_icmp .lt 13, 3) := by decide +kernel
theorem dX6_netAt_12 : decode cX6_netAt 12 = .ok (.new 103, 3) := by decide +kernel
theorem dX6_netAt_15 : decode cX6_netAt 15 = .ok (.dup, 1) := by decide +kernel
theorem dX6_netAt_16 : decode cX6_netAt 16 = .ok (.ldc 181, 2) := by decide +kernel
theorem dX6_netAt_18 : decode cX6_netAt 18 = .ok (.invokespecial 107, 3) := by decide +kernel
theorem dX6_netAt_21 : decode cX6_netAt 21 = .ok (.athrow, 1) := by decide +kernel
theorem dX6_netAt_22 : decode cX6_netAt 22 = .ok (.aload_n 0, 1) := by decide +kernel
theorem dX6_netAt_23 : decode cX6_netAt 23 = .ok (.getfield 49, 3) := by decide +kernel
theorem dX6_netAt_26 : decode cX6_netAt 26 = .ok (.iload_n 1, 1) := by decide +kernel
theorem dX6_netAt_27 : decode cX6_netAt 27 = .ok (.aaload, 1) := by decide +kernel
theorem dX6_netAt_28 : decode cX6_netAt 28 = .ok (.areturn, 1) := by decide +kernel
set_option maxRecDepth 20000 in
theorem ggX6_cellAt_X1_has : GoodIn wsX6_cellAt wsX1_has := goodIn_r _ [8, 9, 10, 11, 25, 26, 27, 28, 29, 30, 31, 32, 33, 34] (by decide +kernel) (by decide +kernel)
set_option maxRecDepth 20000 in
theorem gX6_cellAt_X1_has : GoodIn wsX6_cellAt (wsV RX6 183 RX1 yX1_has wsX1_has) := goodIn_app (goodIn_of _ (by decide +kernel)) ggX6_cellAt_X1_has
set_option maxRecDepth 20000 in
theorem ggX6_cellAt_X1_numberOf : GoodIn wsX6_cellAt wsX1_numberOf := goodIn_r _ [15, 11, 10, 25, 26, 27, 28, 29, 30, 31, 32, 33, 34] (by decide +kernel) (by decide +kernel)
set_option maxRecDepth 20000 in
theorem gX6_cellAt_X1_numberOf : GoodIn wsX6_cellAt (wsV RX6 189 RX1 yX1_numberOf wsX1_numberOf) := goodIn_app (goodIn_of _ (by decide +kernel)) ggX6_cellAt_X1_numberOf
theorem dX6_cellAt_0 : decode cX6_cellAt 0 = .ok (.aload_n 0, 1) := by decide +kernel
theorem dX6_cellAt_1 : decode cX6_cellAt 1 = .ok (.getfield 12, 3) := by decide +kernel
theorem dX6_cellAt_4 : decode cX6_cellAt 4 = .ok (.iload_n 1, 1) := by decide +kernel
theorem dX6_cellAt_5 : decode cX6_cellAt 5 = .ok (.iload_n 2, 1) := by decide +kernel
theorem dX6_cellAt_6 : decode cX6_cellAt 6 = .ok (.iload_n 3, 1) := by decide +kernel
theorem dX6_cellAt_7 : decode cX6_cellAt 7 = .ok (.invokevirtual 183, 3) := by decide +kernel
theorem dX6_cellAt_10 : decode cX6_cellAt 10 = .ok (.ifCond .ne 13, 3) := by decide +kernel
theorem dX6_cellAt_13 : decode cX6_cellAt 13 = .ok (.new 103, 3) := by decide +kernel
theorem dX6_cellAt_16 : decode cX6_cellAt 16 = .ok (.dup, 1) := by decide +kernel
theorem dX6_cellAt_17 : decode cX6_cellAt 17 = .ok (.ldc 187, 2) := by decide +kernel
theorem dX6_cellAt_19 : decode cX6_cellAt 19 = .ok (.invokespecial 107, 3) := by decide +kernel
theorem dX6_cellAt_22 : decode cX6_cellAt 22 = .ok (.athrow, 1) := by decide +kernel
theorem dX6_cellAt_23 : decode cX6_cellAt 23 = .ok (.aload_n 0, 1) := by decide +kernel
theorem dX6_cellAt_24 : decode cX6_cellAt 24 = .ok (.getfield 12, 3) := by decide +kernel
theorem dX6_cellAt_27 : decode cX6_cellAt 27 = .ok (.iload_n 1, 1) := by decide +kernel
theorem dX6_cellAt_28 : decode cX6_cellAt 28 = .ok (.iload_n 2, 1) := by decide +kernel
theorem dX6_cellAt_29 : decode cX6_cellAt 29 = .ok (.iload_n 3, 1) := by decide +kernel
theorem dX6_cellAt_30 : decode cX6_cellAt 30 = .ok (.invokevirtual 189, 3) := by decide +kernel
theorem dX6_cellAt_33 : decode cX6_cellAt 33 = .ok (.ireturn, 1) := by decide +kernel
theorem dX6_isPrice_0 : decode cX6_isPrice 0 = .ok (.iload_n 0, 1) := by decide +kernel
theorem dX6_isPrice_1 : decode cX6_isPrice 1 = .ok (.ifCond .lt 13, 3) := by decide +kernel
theorem dX6_isPrice_4 : decode cX6_isPrice 4 = .ok (.iload_n 0, 1) := by decide +kernel
theorem dX6_isPrice_5 : decode cX6_isPrice 5 = .ok (.bipush 50, 2) := by decide +kernel
theorem dX6_isPrice_7 : decode cX6_isPrice 7 = .ok (.if_icmp .gt 7, 3) := by decide +kernel
theorem dX6_isPrice_10 : decode cX6_isPrice 10 = .ok (.iconst 1, 1) := by decide +kernel
theorem dX6_isPrice_11 : decode cX6_isPrice 11 = .ok (.goto 4, 3) := by decide +kernel
theorem dX6_isPrice_14 : decode cX6_isPrice 14 = .ok (.iconst 0, 1) := by decide +kernel
theorem dX6_isPrice_15 : decode cX6_isPrice 15 = .ok (.ireturn, 1) := by decide +kernel
theorem dX6_memberAt_0 : decode cX6_memberAt 0 = .ok (.iload_n 1, 1) := by decide +kernel
theorem dX6_memberAt_1 : decode cX6_memberAt 1 = .ok (.istore_n 2, 1) := by decide +kernel
theorem dX6_memberAt_2 : decode cX6_memberAt 2 = .ok (.iconst 0, 1) := by decide +kernel
theorem dX6_memberAt_3 : decode cX6_memberAt 3 = .ok (.istore_n 3, 1) := by decide +kernel
theorem dX6_memberAt_4 : decode cX6_memberAt 4 = .ok (.iload_n 3, 1) := by decide +kernel
theorem dX6_memberAt_5 : decode cX6_memberAt 5 = .ok (.bipush 32, 2) := by decide +kernel
theorem dX6_memberAt_7 : decode cX6_memberAt 7 = .ok (.if_icmp .ge 30, 3) := by decide +kernel
theorem dX6_memberAt_10 : decode cX6_memberAt 10 = .ok (.iload_n 2, 1) := by decide +kernel
theorem dX6_memberAt_11 : decode cX6_memberAt 11 = .ok (.ifCond .lt 26, 3) := by decide +kernel
theorem dX6_memberAt_14 : decode cX6_memberAt 14 = .ok (.iload_n 0, 1) := by decide +kernel
theorem dX6_memberAt_15 : decode cX6_memberAt 15 = .ok (.iload_n 3, 1) := by decide +kernel
theorem dX6_memberAt_16 : decode cX6_memberAt 16 = .ok (.iushr, 1) := by decide +kernel
theorem dX6_memberAt_17 : decode cX6_memberAt 17 = .ok (.iconst 1, 1) := by decide +kernel
theorem dX6_memberAt_18 : decode cX6_memberAt 18 = .ok (.iand, 1) := by decide +kernel
theorem dX6_memberAt_19 : decode cX6_memberAt 19 = .ok (.ifCond .eq 12, 3) := by decide +kernel
theorem dX6_memberAt_22 : decode cX6_memberAt 22 = .ok (.iload_n 2, 1) := by decide +kernel
theorem dX6_memberAt_23 : decode cX6_memberAt 23 = .ok (.ifCond .ne 5, 3) := by decide +kernel
theorem dX6_memberAt_26 : decode cX6_memberAt 26 = .ok (.iload_n 3, 1) := by decide +kernel
theorem dX6_memberAt_27 : decode cX6_memberAt 27 = .ok (.ireturn, 1) := by decide +kernel
theorem dX6_memberAt_28 : decode cX6_memberAt 28 = .ok (.iinc 2 (-1), 3) := by decide +kernel
theorem dX6_memberAt_31 : decode cX6_memberAt 31 = .ok (.iinc 3 1, 3) := by decide +kernel
theorem dX6_memberAt_34 : decode cX6_memberAt 34 = .ok (.goto (-30), 3) := by decide +kernel
theorem dX6_memberAt_37 : decode cX6_memberAt 37 = .ok (.iconst (-1), 1) := by decide +kernel
theorem dX6_memberAt_38 : decode cX6_memberAt 38 = .ok (.ireturn, 1) := by decide +kernel
set_option maxRecDepth 20000 in
theorem ggX6_openNets_X2_isOpen : GoodIn wsX6_openNets wsX2_isOpen := goodIn_r _ [7, 8, 9, 19, 20, 21, 22, 23, 24] (by decide +kernel) (by decide +kernel)
set_option maxRecDepth 20000 in
theorem gX6_openNets_X2_isOpen : GoodIn wsX6_openNets (wsV RX6 192 RX2 yX2_isOpen wsX2_isOpen) := goodIn_app (goodIn_of _ (by decide +kernel)) ggX6_openNets_X2_isOpen
theorem dX6_openNets_0 : decode cX6_openNets 0 = .ok (.iconst 0, 1) := by decide +kernel
theorem dX6_openNets_1 : decode cX6_openNets 1 = .ok (.istore_n 1, 1) := by decide +kernel
theorem dX6_openNets_2 : decode cX6_openNets 2 = .ok (.iconst 0, 1) := by decide +kernel
theorem dX6_openNets_3 : decode cX6_openNets 3 = .ok (.istore_n 2, 1) := by decide +kernel
theorem dX6_openNets_4 : decode cX6_openNets 4 = .ok (.iload_n 2, 1) := by decide +kernel
theorem dX6_openNets_5 : decode cX6_openNets 5 = .ok (.aload_n 0, 1) := by decide +kernel
theorem dX6_openNets_6 : decode cX6_openNets 6 = .ok (.getfield 58, 3) := by decide +kernel
theorem dX6_openNets_9 : decode cX6_openNets 9 = .ok (.if_icmp .ge 27, 3) := by decide +kernel
theorem dX6_openNets_12 : decode cX6_openNets 12 = .ok (.aload_n 0, 1) := by decide +kernel
theorem dX6_openNets_13 : decode cX6_openNets 13 = .ok (.getfield 49, 3) := by decide +kernel
theorem dX6_openNets_16 : decode cX6_openNets 16 = .ok (.iload_n 2, 1) := by decide +kernel
theorem dX6_openNets_17 : decode cX6_openNets 17 = .ok (.aaload, 1) := by decide +kernel
theorem dX6_openNets_18 : decode cX6_openNets 18 = .ok (.invokevirtual 192, 3) := by decide +kernel
theorem dX6_openNets_21 : decode cX6_openNets 21 = .ok (.ifCond .eq 9, 3) := by decide +kernel
theorem dX6_openNets_24 : decode cX6_openNets 24 = .ok (.iload_n 1, 1) := by decide +kernel
theorem dX6_openNets_25 : decode cX6_openNets 25 = .ok (.iconst 1, 1) := by decide +kernel
theorem dX6_openNets_26 : decode cX6_openNets 26 = .ok (.iload_n 2, 1) := by decide +kernel
theorem dX6_openNets_27 : decode cX6_openNets 27 = .ok (.ishl, 1) := by decide +kernel
theorem dX6_openNets_28 : decode cX6_openNets 28 = .ok (.ior, 1) := by decide +kernel
theorem dX6_openNets_29 : decode cX6_openNets 29 = .ok (.istore_n 1, 1) := by decide +kernel
theorem dX6_openNets_30 : decode cX6_openNets 30 = .ok (.iinc 2 1, 3) := by decide +kernel
theorem dX6_openNets_33 : decode cX6_openNets 33 = .ok (.goto (-29), 3) := by decide +kernel
theorem dX6_openNets_36 : decode cX6_openNets 36 = .ok (.iload_n 1, 1) := by decide +kernel
theorem dX6_openNets_37 : decode cX6_openNets 37 = .ok (.ireturn, 1) := by decide +kernel
set_option maxRecDepth 20000 in
theorem ggX6_layOpen_X1_keepPinsAlone : GoodIn wsX6_layOpen wsX1_keepPinsAlone := goodIn_r _ [8, 9, 10, 11, 27, 28, 29, 30, 31, 32, 33, 34, 35, 36] (by decide +kernel) (by decide +kernel)
set_option maxRecDepth 20000 in
theorem gX6_layOpen_X1_keepPinsAlone : GoodIn wsX6_layOpen (wsV RX6 195 RX1 yX1_keepPinsAlone wsX1_keepPinsAlone) := goodIn_app (goodIn_of _ (by decide +kernel)) ggX6_layOpen_X1_keepPinsAlone
theorem dX6_layOpen_0 : decode cX6_layOpen 0 = .ok (.aload_n 0, 1) := by decide +kernel
theorem dX6_layOpen_1 : decode cX6_layOpen 1 = .ok (.getfield 49, 3) := by decide +kernel
theorem dX6_layOpen_4 : decode cX6_layOpen 4 = .ok (.iload_n 1, 1) := by decide +kernel
theorem dX6_layOpen_5 : decode cX6_layOpen 5 = .ok (.aaload, 1) := by decide +kernel
theorem dX6_layOpen_6 : decode cX6_layOpen 6 = .ok (.iconst 0, 1) := by decide +kernel
theorem dX6_layOpen_7 : decode cX6_layOpen 7 = .ok (.putfield 138, 3) := by decide +kernel
theorem dX6_layOpen_10 : decode cX6_layOpen 10 = .ok (.aload_n 0, 1) := by decide +kernel
theorem dX6_layOpen_11 : decode cX6_layOpen 11 = .ok (.getfield 12, 3) := by decide +kernel
theorem dX6_layOpen_14 : decode cX6_layOpen 14 = .ok (.iload_n 1, 1) := by decide +kernel
theorem dX6_layOpen_15 : decode cX6_layOpen 15 = .ok (.invokevirtual 195, 3) := by decide +kernel
theorem dX6_layOpen_18 : decode cX6_layOpen 18 = .ok (.return_, 1) := by decide +kernel
set_option maxRecDepth 20000 in
theorem ggX6_playRound_X6_openNets : GoodIn wsX6_playRound wsX6_openNets := goodIn_r _ [8, 9, 1, 10, 11, 12, 13, 14, 15, 16, 188, 189, 190, 191, 192, 193, 194, 195, 196, 197, 198, 199, 200, 201, 202] (by decide +kernel) (by decide +kernel)
set_option maxRecDepth 20000 in
theorem gX6_playRound_X6_openNets : GoodIn wsX6_playRound (wsV RX6 125 RX6 yX6_openNets wsX6_openNets) := goodIn_app (goodIn_of _ (by decide +kernel)) ggX6_playRound_X6_openNets
set_option maxRecDepth 20000 in
theorem ggX6_playRound_X6_putInOrder : GoodIn wsX6_playRound wsX6_putInOrder := goodIn_r _ [20, 9, 2, 21, 22, 23, 7, 24, 25, 26, 27, 188, 189, 190, 191, 192, 193, 194, 195, 196] (by decide +kernel) (by decide +kernel)
set_option maxRecDepth 20000 in
theorem gX6_playRound_X6_putInOrder : GoodIn wsX6_playRound (wsV RX6 198 RX6 yX6_putInOrder wsX6_putInOrder) := goodIn_app (goodIn_of _ (by decide +kernel)) ggX6_playRound_X6_putInOrder
set_option maxRecDepth 20000 in
theorem ggX6_playRound_X2_isOpen : GoodIn wsX6_playRound wsX2_isOpen := goodIn_r _ [14, 15, 16, 197, 198, 199, 200, 201, 202] (by decide +kernel) (by decide +kernel)
set_option maxRecDepth 20000 in
theorem gX6_playRound_X2_isOpen : GoodIn wsX6_playRound (wsV RX6 192 RX2 yX2_isOpen wsX2_isOpen) := goodIn_app (goodIn_of _ (by decide +kernel)) ggX6_playRound_X2_isOpen
set_option maxRecDepth 20000 in
theorem ggX6_playRound_X6_lead : GoodIn wsX6_playRound wsX6_lead := goodIn_r _ [31, 1, 32, 33, 34, 35, 36, 37, 38, 39, 40, 41, 42, 43, 44, 45, 46, 47, 48, 49, 50, 51, 52, 53, 54, 55, 56, 57, 58, 59, 60, 61, 62, 63, 64, 65, 66, 67, 68, 69, 70, 71, 72, 73, 74, 75, 76, 77, 78, 79, 80, 81, 82, 83, 84, 85, 86, 87, 88, 89, 90, 91, 92, 93, 94, 95, 96, 97, 98, 99, 100, 101, 102, 103, 104, 105, 106, 107, 108, 109, 110, 111, 112, 113, 114, 115, 116, 117, 118, 119, 120, 121, 122, 123, 124, 125, 126, 127, 128, 129, 130, 131, 132, 133, 134, 135, 136, 137, 138, 139, 140, 141, 142, 143, 144, 145, 146, 147, 148, 149, 150, 151, 152, 153, 154, 155, 156, 157, 7, 158, 159, 160, 161, 162, 163, 164, 165, 166, 167, 168, 169, 170, 171, 9, 172, 173, 174, 175, 176, 177, 178, 179, 180, 181, 182, 183, 184, 185, 186, 187, 188, 189, 190, 191, 192, 193, 194, 195, 196, 197, 198, 199, 200, 201, 202, 203, 204, 205, 206, 207, 208, 209, 210, 211, 212, 213, 214, 215, 216, 217, 218, 219, 220, 221, 222, 223, 224, 225, 226] (by decide +kernel) (by decide +kernel)
set_option maxRecDepth 20000 in
theorem gX6_playRound_X6_lead : GoodIn wsX6_playRound (wsV RX6 201 RX6 yX6_lead wsX6_lead) := goodIn_app (goodIn_of _ (by decide +kernel)) ggX6_playRound_X6_lead
theorem dX6_playRound_0 : decode cX6_playRound 0 = .ok (.aload_n 0, 1) := by decide +kernel
theorem dX6_playRound_1 : decode cX6_playRound 1 = .ok (.aload_n 0, 1) := by decide +kernel
theorem dX6_playRound_2 : decode cX6_playRound 2 = .ok (.invokevirtual 125, 3) := by decide +kernel
theorem dX6_playRound_5 : decode cX6_playRound 5 = .ok (.invokevirtual 198, 3) := by decide +kernel
theorem dX6_playRound_8 : decode cX6_playRound 8 = .ok (.istore_n 1, 1) := by decide +kernel
theorem dX6_playRound_9 : decode cX6_playRound 9 = .ok (.iconst 0, 1) := by decide +kernel
theorem dX6_playRound_10 : decode cX6_playRound 10 = .ok (.istore_n 2, 1) := by decide +kernel
theorem dX6_playRound_11 : decode cX6_playRound 11 = .ok (.iload_n 2, 1) := by decide +kernel
theorem dX6_playRound_12 : decode cX6_playRound 12 = .ok (.iload_n 1, 1) := by decide +kernel
theorem dX6_playRound_13 : decode cX6_playRound 13 = .ok (.if_icmp .ge 36, 3) := by decide +kernel
theorem dX6_playRound_16 : decode cX6_playRound 16 = .ok (.aload_n 0, 1) := by decide +kernel
theorem dX6_playRound_17 : decode cX6_playRound 17 = .ok (.getfield 49, 3) := by decide +kernel
theorem dX6_playRound_20 : decode cX6_playRound 20 = .ok (.aload_n 0, 1) := by decide +kernel
theorem dX6_playRound_21 : decode cX6_playRound 21 = .ok (.getfield 54, 3) := by decide +kernel
theorem dX6_playRound_24 : decode cX6_playRound 24 = .ok (.iload_n 2, 1) := by decide +kernel
theorem dX6_playRound_25 : decode cX6_playRound 25 = .ok (.iaload, 1) := by decide +kernel
theorem dX6_playRound_26 : decode cX6_playRound 26 = .ok (.aaload, 1) := by decide +kernel
theorem dX6_playRound_27 : decode cX6_playRound 27 = .ok (.invokevirtual 192, 3) := by decide +kernel
theorem dX6_playRound_30 : decode cX6_playRound 30 = .ok (.ifCond .eq 13, 3) := by decide +kernel
theorem dX6_playRound_33 : decode cX6_playRound 33 = .ok (.aload_n 0, 1) := by decide +kernel
theorem dX6_playRound_34 : decode cX6_playRound 34 = .ok (.aload_n 0, 1) := by decide +kernel
theorem dX6_playRound_35 : decode cX6_playRound 35 = .ok (.getfield 54, 3) := by decide +kernel
theorem dX6_playRound_38 : decode cX6_playRound 38 = .ok (.iload_n 2, 1) := by decide +kernel
theorem dX6_playRound_39 : decode cX6_playRound 39 = .ok (.iaload, 1) := by decide +kernel
theorem dX6_playRound_40 : decode cX6_playRound 40 = .ok (.invokevirtual 201, 3) := by decide +kernel
theorem dX6_playRound_43 : decode cX6_playRound 43 = .ok (.iinc 2 1, 3) := by decide +kernel
theorem dX6_playRound_46 : decode cX6_playRound 46 = .ok (.goto (-35), 3) := by decide +kernel
theorem dX6_playRound_49 : decode cX6_playRound 49 = .ok (.aload_n 0, 1) := by decide +kernel
theorem dX6_playRound_50 : decode cX6_playRound 50 = .ok (.dup, 1) := by decide +kernel
theorem dX6_playRound_51 : decode cX6_playRound 51 = .ok (.getfield 61, 3) := by decide +kernel
theorem dX6_playRound_54 : decode cX6_playRound 54 = .ok (.iconst 1, 1) := by decide +kernel
theorem dX6_playRound_55 : decode cX6_playRound 55 = .ok (.iadd, 1) := by decide +kernel
theorem dX6_playRound_56 : decode cX6_playRound 56 = .ok (.putfield 61, 3) := by decide +kernel
theorem dX6_playRound_59 : decode cX6_playRound 59 = .ok (.return_, 1) := by decide +kernel
set_option maxRecDepth 20000 in
theorem ggX6_putInOrder_X6_draw : GoodIn wsX6_putInOrder wsX6_draw := goodIn_r _ [7, 8, 9, 10, 11, 12, 13, 14, 15, 16, 17, 18, 19] (by decide +kernel) (by decide +kernel)
set_option maxRecDepth 20000 in
theorem gX6_putInOrder_X6_draw : GoodIn wsX6_putInOrder (wsV RX6 204 RX6 yX6_draw wsX6_draw) := goodIn_app (goodIn_of _ (by decide +kernel)) ggX6_putInOrder_X6_draw
theorem dX6_putInOrder_0 : decode cX6_putInOrder 0 = .ok (.iconst 0, 1) := by decide +kernel
theorem dX6_putInOrder_1 : decode cX6_putInOrder 1 = .ok (.istore_n 2, 1) := by decide +kernel
theorem dX6_putInOrder_2 : decode cX6_putInOrder 2 = .ok (.iconst 0, 1) := by decide +kernel
theorem dX6_putInOrder_3 : decode cX6_putInOrder 3 = .ok (.istore_n 3, 1) := by decide +kernel
theorem dX6_putInOrder_4 : decode cX6_putInOrder 4 = .ok (.iload_n 3, 1) := by decide +kernel
theorem dX6_putInOrder_5 : decode cX6_putInOrder 5 = .ok (.aload_n 0, 1) := by decide +kernel
theorem dX6_putInOrder_6 : decode cX6_putInOrder 6 = .ok (.getfield 58, 3) := by decide +kernel
theorem dX6_putInOrder_9 : decode cX6_putInOrder 9 = .ok (.if_icmp .ge 27, 3) := by decide +kernel
theorem dX6_putInOrder_12 : decode cX6_putInOrder 12 = .ok (.iload_n 1, 1) := by decide +kernel
theorem dX6_putInOrder_13 : decode cX6_putInOrder 13 = .ok (.iload_n 3, 1) := by decide +kernel
theorem dX6_putInOrder_14 : decode cX6_putInOrder 14 = .ok (.iushr, 1) := by decide +kernel
theorem dX6_putInOrder_15 : decode cX6_putInOrder 15 = .ok (.iconst 1, 1) := by decide +kernel
theorem dX6_putInOrder_16 : decode cX6_putInOrder 16 = .ok (.iand, 1) := by decide +kernel
theorem dX6_putInOrder_17 : decode cX6_putInOrder 17 = .ok (.ifCond .eq 13, 3) := by decide +kernel
theorem dX6_putInOrder_20 : decode cX6_putInOrder 20 = .ok (.aload_n 0, 1) := by decide +kernel
theorem dX6_putInOrder_21 : decode cX6_putInOrder 21 = .ok (.getfield 54, 3) := by decide +kernel
theorem dX6_putInOrder_24 : decode cX6_putInOrder 24 = .ok (.iload_n 2, 1) := by decide +kernel
theorem dX6_putInOrder_25 : decode cX6_putInOrder 25 = .ok (.iload_n 3, 1) := by decide +kernel
theorem dX6_putInOrder_26 : decode cX6_putInOrder 26 = .ok (.iastore, 1) := by decide +kernel
theorem dX6_putInOrder_27 : decode cX6_putInOrder 27 = .ok (.iinc 2 1, 3) := by decide +kernel
theorem dX6_putInOrder_30 : decode cX6_putInOrder 30 = .ok (.iinc 3 1, 3) := by decide +kernel
theorem dX6_putInOrder_33 : decode cX6_putInOrder 33 = .ok (.goto (-29), 3) := by decide +kernel
theorem dX6_putInOrder_36 : decode cX6_putInOrder 36 = .ok (.iload_n 2, 1) := by decide +kernel
theorem dX6_putInOrder_37 : decode cX6_putInOrder 37 = .ok (.iconst 1, 1) := by decide +kernel
theorem dX6_putInOrder_38 : decode cX6_putInOrder 38 = .ok (.isub, 1) := by decide +kernel
theorem dX6_putInOrder_39 : decode cX6_putInOrder 39 = .ok (.istore_n 3, 1) := by decide +kernel
theorem dX6_putInOrder_40 : decode cX6_putInOrder 40 = .ok (.iload_n 3, 1) := by decide +kernel
theorem dX6_putInOrder_41 : decode cX6_putInOrder 41 = .ok (.iconst 1, 1) := by decide +kernel
theorem dX6_putInOrder_42 : decode cX6_putInOrder 42 = .ok (.if_icmp .lt 51, 3) := by decide +kernel
theorem dX6_putInOrder_45 : decode cX6_putInOrder 45 = .ok (.aload_n 0, 1) := by decide +kernel
theorem dX6_putInOrder_46 : decode cX6_putInOrder 46 = .ok (.invokevirtual 204, 3) := by decide +kernel
theorem dX6_putInOrder_49 : decode cX6_putInOrder 49 = .ok (.iload_n 3, 1) := by decide +kernel
theorem dX6_putInOrder_50 : decode cX6_putInOrder 50 = .ok (.iconst 1, 1) := by decide +kernel
theorem dX6_putInOrder_51 : decode cX6_putInOrder 51 = .ok (.iadd, 1) := by decide +kernel
theorem dX6_putInOrder_52 : decode cX6_putInOrder 52 = .ok (.i2l, 1) := by decide +kernel
theorem dX6_putInOrder_53 : decode cX6_putInOrder 53 = .ok (.lrem, 1) := by decide +kernel
theorem dX6_putInOrder_54 : decode cX6_putInOrder 54 = .ok (.l2i, 1) := by decide +kernel
theorem dX6_putInOrder_55 : decode cX6_putInOrder 55 = .ok (.istore 4, 2) := by decide +kernel
theorem dX6_putInOrder_57 : decode cX6_putInOrder 57 = .ok (.aload_n 0, 1) := by decide +kernel
theorem dX6_putInOrder_58 : decode cX6_putInOrder 58 = .ok (.getfield 54, 3) := by decide +kernel
theorem dX6_putInOrder_61 : decode cX6_putInOrder 61 = .ok (.iload_n 3, 1) := by decide +kernel
theorem dX6_putInOrder_62 : decode cX6_putInOrder 62 = .ok (.iaload, 1) := by decide +kernel
theorem dX6_putInOrder_63 : decode cX6_putInOrder 63 = .ok (.istore 5, 2) := by decide +kernel
theorem dX6_putInOrder_65 : decode cX6_putInOrder 65 = .ok (.aload_n 0, 1) := by decide +kernel
theorem dX6_putInOrder_66 : decode cX6_putInOrder 66 = .ok (.getfield 54, 3) := by decide +kernel
theorem dX6_putInOrder_69 : decode cX6_putInOrder 69 = .ok (.iload_n 3, 1) := by decide +kernel
theorem dX6_putInOrder_70 : decode cX6_putInOrder 70 = .ok (.aload_n 0, 1) := by decide +kernel
theorem dX6_putInOrder_71 : decode cX6_putInOrder 71 = .ok (.getfield 54, 3) := by decide +kernel
theorem dX6_putInOrder_74 : decode cX6_putInOrder 74 = .ok (.iload 4, 2) := by decide +kernel
theorem dX6_putInOrder_76 : decode cX6_putInOrder 76 = .ok (.iaload, 1) := by decide +kernel
theorem dX6_putInOrder_77 : decode cX6_putInOrder 77 = .ok (.iastore, 1) := by decide +kernel
theorem dX6_putInOrder_78 : decode cX6_putInOrder 78 = .ok (.aload_n 0, 1) := by decide +kernel
theorem dX6_putInOrder_79 : decode cX6_putInOrder 79 = .ok (.getfield 54, 3) := by decide +kernel
theorem dX6_putInOrder_82 : decode cX6_putInOrder 82 = .ok (.iload 4, 2) := by decide +kernel
theorem dX6_putInOrder_84 : decode cX6_putInOrder 84 = .ok (.iload 5, 2) := by decide +kernel
theorem dX6_putInOrder_86 : decode cX6_putInOrder 86 = .ok (.iastore, 1) := by decide +kernel
theorem dX6_putInOrder_87 : decode cX6_putInOrder 87 = .ok (.iinc 3 (-1), 3) := by decide +kernel
theorem dX6_putInOrder_90 : decode cX6_putInOrder 90 = .ok (.goto (-50), 3) := by decide +kernel
theorem dX6_putInOrder_93 : decode cX6_putInOrder 93 = .ok (.iload_n 2, 1) := by decide +kernel
theorem dX6_putInOrder_94 : decode cX6_putInOrder 94 = .ok (.ireturn, 1) := by decide +kernel
theorem dX6_draw_0 : decode cX6_draw 0 = .ok (.aload_n 0, 1) := by decide +kernel
theorem dX6_draw_1 : decode cX6_draw 1 = .ok (.aload_n 0, 1) := by decide +kernel
theorem dX6_draw_2 : decode cX6_draw 2 = .ok (.getfield 64, 3) := by decide +kernel
theorem dX6_draw_5 : decode cX6_draw 5 = .ok (.ldc2_w 208, 3) := by decide +kernel
theorem dX6_draw_8 : decode cX6_draw 8 = .ok (.lmul, 1) := by decide +kernel
theorem dX6_draw_9 : decode cX6_draw 9 = .ok (.ldc2_w 210, 3) := by decide +kernel
theorem dX6_draw_12 : decode cX6_draw 12 = .ok (.ladd, 1) := by decide +kernel
theorem dX6_draw_13 : decode cX6_draw 13 = .ok (.putfield 64, 3) := by decide +kernel
theorem dX6_draw_16 : decode cX6_draw 16 = .ok (.aload_n 0, 1) := by decide +kernel
theorem dX6_draw_17 : decode cX6_draw 17 = .ok (.getfield 64, 3) := by decide +kernel
theorem dX6_draw_20 : decode cX6_draw 20 = .ok (.bipush 33, 2) := by decide +kernel
theorem dX6_draw_22 : decode cX6_draw 22 = .ok (.lushr, 1) := by decide +kernel
theorem dX6_draw_23 : decode cX6_draw 23 = .ok (.lreturn, 1) := by decide +kernel
set_option maxRecDepth 20000 in
theorem ggX6_lead_X5_startAt : GoodIn wsX6_lead wsX5_startAt := goodIn_r _ [15, 16, 17, 18, 19, 14, 20, 21, 180, 181] (by decide +kernel) (by decide +kernel)
set_option maxRecDepth 20000 in
theorem gX6_lead_X5_startAt : GoodIn wsX6_lead (wsV RX6 215 RX5 yX5_startAt wsX5_startAt) := goodIn_app (goodIn_of _ (by decide +kernel)) ggX6_lead_X5_startAt
set_option maxRecDepth 20000 in
theorem ggX6_lead_X4_reachesPin : GoodIn wsX6_lead wsX4_reachesPin := goodIn_r _ [26, 27, 28, 29, 30, 31, 32, 33, 34, 35, 25, 36, 37, 38, 39, 40, 41, 42, 43, 44, 45, 46, 47, 48, 49, 50, 51, 52, 53, 54, 55, 56, 57, 58, 59, 60, 61, 62, 63, 64, 65, 66, 67, 68, 69, 70, 71, 72, 73, 74, 75, 76, 77, 78, 79, 80, 81, 82, 83, 84, 85, 86, 87, 88, 89, 90, 91, 92, 93, 94, 95, 96, 97, 98, 99, 100, 101, 102, 103, 104, 105, 106, 107, 108, 109, 110, 111, 112, 113, 114, 175, 176, 177, 178, 179, 182, 183, 184, 185, 186, 187, 188, 189, 190, 191, 192, 193, 194, 195, 196, 197, 198, 180, 181] (by decide +kernel) (by decide +kernel)
set_option maxRecDepth 20000 in
theorem gX6_lead_X4_reachesPin : GoodIn wsX6_lead (wsV RX6 221 RX4 yX4_reachesPin wsX4_reachesPin) := goodIn_app (goodIn_of _ (by decide +kernel)) ggX6_lead_X4_reachesPin
set_option maxRecDepth 20000 in
theorem ggX6_lead_X4_holdersAround : GoodIn wsX6_lead wsX4_holdersAround := goodIn_r _ [118, 27, 28, 32, 40, 31, 60, 61, 62, 46, 63, 59, 64, 65, 43, 44, 45, 47, 48, 175, 176, 177, 178, 179, 182, 183, 184, 185, 186, 187, 188, 189, 190, 191] (by decide +kernel) (by decide +kernel)
set_option maxRecDepth 20000 in
theorem gX6_lead_X4_holdersAround : GoodIn wsX6_lead (wsV RX6 225 RX4 yX4_holdersAround wsX4_holdersAround) := goodIn_app (goodIn_of _ (by decide +kernel)) ggX6_lead_X4_holdersAround
set_option maxRecDepth 20000 in
theorem ggX6_lead_X4_nearestPin : GoodIn wsX6_lead wsX4_nearestPin := goodIn_r _ [122, 123, 124, 32, 169, 170, 171, 172, 173, 174, 175, 176, 177, 178, 179] (by decide +kernel) (by decide +kernel)
set_option maxRecDepth 20000 in
theorem gX6_lead_X4_nearestPin : GoodIn wsX6_lead (wsV RX6 228 RX4 yX4_nearestPin wsX4_nearestPin) := goodIn_app (goodIn_of _ (by decide +kernel)) ggX6_lead_X4_nearestPin
set_option maxRecDepth 20000 in
theorem ggX6_lead_X6_joinFrom : GoodIn wsX6_lead wsX6_joinFrom := goodIn_r _ [129, 10, 130, 7, 8, 131, 132, 4, 133, 44, 45, 46, 47, 48, 134, 18, 19, 14, 20, 16, 21, 135, 136, 137, 25, 138, 27, 32, 40, 53, 39, 55, 56, 57, 58, 59, 60, 61, 62, 63, 64, 65, 108, 109, 110, 111, 112, 113, 114, 160, 161, 162, 163, 164, 165, 166, 167, 168, 182, 183, 184, 185, 186, 187, 188, 189, 190, 191, 175, 176, 177, 178, 179, 180, 181, 196, 197, 198] (by decide +kernel) (by decide +kernel)
set_option maxRecDepth 20000 in
theorem gX6_lead_X6_joinFrom : GoodIn wsX6_lead (wsV RX6 235 RX6 yX6_joinFrom wsX6_joinFrom) := goodIn_app (goodIn_of _ (by decide +kernel)) ggX6_lead_X6_joinFrom
set_option maxRecDepth 20000 in
theorem ggX6_lead_X6_ripUp : GoodIn wsX6_lead wsX6_ripUp := goodIn_r _ [142, 143, 1, 144, 145, 146, 147, 128, 148, 9, 10, 149, 150, 151, 46, 152, 65, 48, 153, 160, 161, 162, 163, 164, 165, 166, 167, 168, 169, 170, 171, 172, 173, 174, 182, 183, 184, 185, 186, 187, 188, 189, 190, 191] (by decide +kernel) (by decide +kernel)
set_option maxRecDepth 20000 in
theorem gX6_lead_X6_ripUp : GoodIn wsX6_lead (wsV RX6 238 RX6 yX6_ripUp wsX6_ripUp) := goodIn_app (goodIn_of _ (by decide +kernel)) ggX6_lead_X6_ripUp
set_option maxRecDepth 20000 in
theorem ggX6_lead_X5_holdFor : GoodIn wsX6_lead wsX5_holdFor := goodIn_r _ [157, 16, 158, 21, 159, 180, 181, 182, 183, 184, 185, 186, 187, 188, 189, 190, 191] (by decide +kernel) (by decide +kernel)
set_option maxRecDepth 20000 in
theorem gX6_lead_X5_holdFor : GoodIn wsX6_lead (wsV RX6 241 RX5 yX5_holdFor wsX5_holdFor) := goodIn_app (goodIn_of _ (by decide +kernel)) ggX6_lead_X5_holdFor
theorem dX6_lead_0 : decode cX6_lead 0 = .ok (.aload_n 0, 1) := by decide +kernel
theorem dX6_lead_1 : decode cX6_lead 1 = .ok (.getfield 49, 3) := by decide +kernel
theorem dX6_lead_4 : decode cX6_lead 4 = .ok (.iload_n 1, 1) := by decide +kernel
theorem dX6_lead_5 : decode cX6_lead 5 = .ok (.aaload, 1) := by decide +kernel
theorem dX6_lead_6 : decode cX6_lead 6 = .ok (.astore_n 2, 1) := by decide +kernel
theorem dX6_lead_7 : decode cX6_lead 7 = .ok (.aload_n 2, 1) := by decide +kernel
theorem dX6_lead_8 : decode cX6_lead 8 = .ok (.lconst 0, 1) := by decide +kernel
theorem dX6_lead_9 : decode cX6_lead 9 = .ok (.putfield 157, 3) := by decide +kernel
theorem dX6_lead_12 : decode cX6_lead 12 = .ok (.aload_n 2, 1) := by decide +kernel
theorem dX6_lead_13 : decode cX6_lead 13 = .ok (.iconst 0, 1) := by decide +kernel
theorem dX6_lead_14 : decode cX6_lead 14 = .ok (.putfield 172, 3) := by decide +kernel
theorem dX6_lead_17 : decode cX6_lead 17 = .ok (.aload_n 0, 1) := by decide +kernel
theorem dX6_lead_18 : decode cX6_lead 18 = .ok (.getfield 43, 3) := by decide +kernel
theorem dX6_lead_21 : decode cX6_lead 21 = .ok (.aload_n 2, 1) := by decide +kernel
theorem dX6_lead_22 : decode cX6_lead 22 = .ok (.getfield 212, 3) := by decide +kernel
theorem dX6_lead_25 : decode cX6_lead 25 = .ok (.iconst 0, 1) := by decide +kernel
theorem dX6_lead_26 : decode cX6_lead 26 = .ok (.iaload, 1) := by decide +kernel
theorem dX6_lead_27 : decode cX6_lead 27 = .ok (.invokevirtual 215, 3) := by decide +kernel
theorem dX6_lead_30 : decode cX6_lead 30 = .ok (.iconst 1, 1) := by decide +kernel
theorem dX6_lead_31 : decode cX6_lead 31 = .ok (.istore_n 3, 1) := by decide +kernel
theorem dX6_lead_32 : decode cX6_lead 32 = .ok (.iload_n 3, 1) := by decide +kernel
theorem dX6_lead_33 : decode cX6_lead 33 = .ok (.aload_n 2, 1) := by decide +kernel
theorem dX6_lead_34 : decode cX6_lead 34 = .ok (.getfield 218, 3) := by decide +kernel
theorem dX6_lead_37 : decode cX6_lead 37 = .ok (.if_icmp .ge 104, 3) := by decide +kernel
theorem dX6_lead_40 : decode cX6_lead 40 = .ok (.aload_n 0, 1) := by decide +kernel
theorem dX6_lead_41 : decode cX6_lead 41 = .ok (.getfield 30, 3) := by decide +kernel
theorem dX6_lead_44 : decode cX6_lead 44 = .ok (.iload_n 1, 1) := by decide +kernel
theorem dX6_lead_45 : decode cX6_lead 45 = .ok (.aload_n 0, 1) := by decide +kernel
theorem dX6_lead_46 : decode cX6_lead 46 = .ok (.getfield 43, 3) := by decide +kernel
theorem dX6_lead_49 : decode cX6_lead 49 = .ok (.iconst 0, 1) := by decide +kernel
theorem dX6_lead_50 : decode cX6_lead 50 = .ok (.invokevirtual 221, 3) := by decide +kernel
theorem dX6_lead_53 : decode cX6_lead 53 = .ok (.ifCond .ne 36, 3) := by decide +kernel
theorem dX6_lead_56 : decode cX6_lead 56 = .ok (.aload_n 0, 1) := by decide +kernel
theorem dX6_lead_57 : decode cX6_lead 57 = .ok (.getfield 30, 3) := by decide +kernel
theorem dX6_lead_60 : decode cX6_lead 60 = .ok (.iload_n 1, 1) := by decide +kernel
theorem dX6_lead_61 : decode cX6_lead 61 = .ok (.invokevirtual 225, 3) := by decide +kernel
theorem dX6_lead_64 : decode cX6_lead 64 = .ok (.istore 4, 2) := by decide +kernel
theorem dX6_lead_66 : decode cX6_lead 66 = .ok (.aload_n 0, 1) := by decide +kernel
theorem dX6_lead_67 : decode cX6_lead 67 = .ok (.getfield 30, 3) := by decide +kernel
theorem dX6_lead_70 : decode cX6_lead 70 = .ok (.iload_n 1, 1) := by decide +kernel
theorem dX6_lead_71 : decode cX6_lead 71 = .ok (.aload_n 0, 1) := by decide +kernel
theorem dX6_lead_72 : decode cX6_lead 72 = .ok (.getfield 43, 3) := by decide +kernel
theorem dX6_lead_75 : decode cX6_lead 75 = .ok (.iconst 1, 1) := by decide +kernel
theorem dX6_lead_76 : decode cX6_lead 76 = .ok (.invokevirtual 221, 3) := by decide +kernel
theorem dX6_lead_79 : decode cX6_lead 79 = .ok (.ifCond .ne 10, 3) := by decide +kernel
theorem dX6_lead_82 : decode cX6_lead 82 = .ok (.aload_n 2, 1) := by decide +kernel
theorem dX6_lead_83 : decode cX6_lead 83 = .ok (.iload 4, 2) := by decide +kernel
theorem dX6_lead_85 : decode cX6_lead 85 = .ok (.putfield 172, 3) := by decide +kernel
theorem dX6_lead_88 : decode cX6_lead 88 = .ok (.return_, 1) := by decide +kernel
theorem dX6_lead_89 : decode cX6_lead 89 = .ok (.aload_n 0, 1) := by decide +kernel
theorem dX6_lead_90 : decode cX6_lead 90 = .ok (.getfield 30, 3) := by decide +kernel
theorem dX6_lead_93 : decode cX6_lead 93 = .ok (.aload_n 2, 1) := by decide +kernel
theorem dX6_lead_94 : decode cX6_lead 94 = .ok (.invokevirtual 228, 3) := by decide +kernel
theorem dX6_lead_97 : decode cX6_lead 97 = .ok (.istore 4, 2) := by decide +kernel
theorem dX6_lead_99 : decode cX6_lead 99 = .ok (.iload 4, 2) := by decide +kernel
theorem dX6_lead_101 : decode cX6_lead 101 = .ok (.iconst (-1), 1) := by decide +kernel
theorem dX6_lead_102 : decode cX6_lead 102 = .ok (.if_icmp .eq 33, 3) := by decide +kernel
theorem dX6_lead_105 : decode cX6_lead 105 = .ok (.aload_n 2, 1) := by decide +kernel
theorem dX6_lead_106 : decode cX6_lead 106 = .ok (.dup, 1) := by decide +kernel
theorem dX6_lead_107 : decode cX6_lead 107 = .ok (.getfield 157, 3) := by decide +kernel
theorem dX6_lead_110 : decode cX6_lead 110 = .ok (.aload_n 0, 1) := by decide +kernel
theorem dX6_lead_111 : decode cX6_lead 111 = .ok (.getfield 30, 3) := by decide +kernel
theorem dX6_lead_114 : decode cX6_lead 114 = .ok (.getfield 232, 3) := by decide +kernel
theorem dX6_lead_117 : decode cX6_lead 117 = .ok (.iload 4, 2) := by decide +kernel
theorem dX6_lead_119 : decode cX6_lead 119 = .ok (.laload, 1) := by decide +kernel
theorem dX6_lead_120 : decode cX6_lead 120 = .ok (.ladd, 1) := by decide +kernel
theorem dX6_lead_121 : decode cX6_lead 121 = .ok (.putfield 157, 3) := by decide +kernel
theorem dX6_lead_124 : decode cX6_lead 124 = .ok (.aload_n 0, 1) := by decide +kernel
theorem dX6_lead_125 : decode cX6_lead 125 = .ok (.aload_n 0, 1) := by decide +kernel
theorem dX6_lead_126 : decode cX6_lead 126 = .ok (.iload 4, 2) := by decide +kernel
theorem dX6_lead_128 : decode cX6_lead 128 = .ok (.iload_n 1, 1) := by decide +kernel
theorem dX6_lead_129 : decode cX6_lead 129 = .ok (.invokevirtual 235, 3) := by decide +kernel
theorem dX6_lead_132 : decode cX6_lead 132 = .ok (.invokevirtual 238, 3) := by decide +kernel
theorem dX6_lead_135 : decode cX6_lead 135 = .ok (.iinc 3 1, 3) := by decide +kernel
theorem dX6_lead_138 : decode cX6_lead 138 = .ok (.goto (-106), 3) := by decide +kernel
theorem dX6_lead_141 : decode cX6_lead 141 = .ok (.aload_n 2, 1) := by decide +kernel
theorem dX6_lead_142 : decode cX6_lead 142 = .ok (.iconst 1, 1) := by decide +kernel
theorem dX6_lead_143 : decode cX6_lead 143 = .ok (.putfield 138, 3) := by decide +kernel
theorem dX6_lead_146 : decode cX6_lead 146 = .ok (.aload_n 0, 1) := by decide +kernel
theorem dX6_lead_147 : decode cX6_lead 147 = .ok (.getfield 43, 3) := by decide +kernel
theorem dX6_lead_150 : decode cX6_lead 150 = .ok (.iload_n 1, 1) := by decide +kernel
theorem dX6_lead_151 : decode cX6_lead 151 = .ok (.aload_n 0, 1) := by decide +kernel
theorem dX6_lead_152 : decode cX6_lead 152 = .ok (.getfield 12, 3) := by decide +kernel
theorem dX6_lead_155 : decode cX6_lead 155 = .ok (.invokevirtual 241, 3) := by decide +kernel
theorem dX6_lead_158 : decode cX6_lead 158 = .ok (.return_, 1) := by decide +kernel
set_option maxRecDepth 20000 in
theorem ggX6_joinFrom_X1_heldByOther : GoodIn wsX6_joinFrom wsX1_heldByOther := goodIn_r _ [12, 13, 58, 59, 60, 61, 62, 63, 64, 65, 66, 67] (by decide +kernel) (by decide +kernel)
set_option maxRecDepth 20000 in
theorem gX6_joinFrom_X1_heldByOther : GoodIn wsX6_joinFrom (wsV RX6 86 RX1 yX1_heldByOther wsX1_heldByOther) := goodIn_app (goodIn_of _ (by decide +kernel)) ggX6_joinFrom_X1_heldByOther
set_option maxRecDepth 20000 in
theorem ggX6_joinFrom_X5_add : GoodIn wsX6_joinFrom wsX5_add := goodIn_r _ [18, 19, 20, 73, 74] (by decide +kernel) (by decide +kernel)
set_option maxRecDepth 20000 in
theorem gX6_joinFrom_X5_add : GoodIn wsX6_joinFrom (wsV RX6 245 RX5 yX5_add wsX5_add) := goodIn_app (goodIn_of _ (by decide +kernel)) ggX6_joinFrom_X5_add
set_option maxRecDepth 20000 in
theorem ggX6_joinFrom_X4_stepBack : GoodIn wsX6_joinFrom wsX4_stepBack := goodIn_r _ [25, 26, 27, 28, 29, 30, 31, 32, 33, 11, 34, 35, 36, 37, 38, 39, 40, 41, 42, 43, 44, 45, 46, 47, 48, 68, 69, 70, 71, 72, 58, 59, 60, 61, 62, 63, 64, 65, 66, 67, 75, 76, 77] (by decide +kernel) (by decide +kernel)
set_option maxRecDepth 20000 in
theorem gX6_joinFrom_X4_stepBack : GoodIn wsX6_joinFrom (wsV RX6 248 RX4 yX4_stepBack wsX4_stepBack) := goodIn_app (goodIn_of _ (by decide +kernel)) ggX6_joinFrom_X4_stepBack
theorem dX6_joinFrom_0 : decode cX6_joinFrom 0 = .ok (.iconst 0, 1) := by decide +kernel
theorem dX6_joinFrom_1 : decode cX6_joinFrom 1 = .ok (.istore_n 3, 1) := by decide +kernel
theorem dX6_joinFrom_2 : decode cX6_joinFrom 2 = .ok (.iload_n 1, 1) := by decide +kernel
theorem dX6_joinFrom_3 : decode cX6_joinFrom 3 = .ok (.istore 4, 2) := by decide +kernel
theorem dX6_joinFrom_5 : decode cX6_joinFrom 5 = .ok (.iconst 0, 1) := by decide +kernel
theorem dX6_joinFrom_6 : decode cX6_joinFrom 6 = .ok (.istore 5, 2) := by decide +kernel
theorem dX6_joinFrom_8 : decode cX6_joinFrom 8 = .ok (.iload 5, 2) := by decide +kernel
theorem dX6_joinFrom_10 : decode cX6_joinFrom 10 = .ok (.aload_n 0, 1) := by decide +kernel
theorem dX6_joinFrom_11 : decode cX6_joinFrom 11 = .ok (.getfield 12, 3) := by decide +kernel
theorem dX6_joinFrom_14 : decode cX6_joinFrom 14 = .ok (.getfield 36, 3) := by decide +kernel
theorem dX6_joinFrom_17 : decode cX6_joinFrom 17 = .ok (.if_icmp .ge 92, 3) := by decide +kernel
theorem dX6_joinFrom_20 : decode cX6_joinFrom 20 = .ok (.iload 4, 2) := by decide +kernel
theorem dX6_joinFrom_22 : decode cX6_joinFrom 22 = .ok (.iconst (-1), 1) := by decide +kernel
theorem dX6_joinFrom_23 : decode cX6_joinFrom 23 = .ok (.if_icmp .eq 86, 3) := by decide +kernel
theorem dX6_joinFrom_26 : decode cX6_joinFrom 26 = .ok (.aload_n 0, 1) := by decide +kernel
theorem dX6_joinFrom_27 : decode cX6_joinFrom 27 = .ok (.getfield 30, 3) := by decide +kernel
theorem dX6_joinFrom_30 : decode cX6_joinFrom 30 = .ok (.getfield 232, 3) := by decide +kernel
theorem dX6_joinFrom_33 : decode cX6_joinFrom 33 = .ok (.iload 4, 2) := by decide +kernel
theorem dX6_joinFrom_35 : decode cX6_joinFrom 35 = .ok (.laload, 1) := by decide +kernel
theorem dX6_joinFrom_36 : decode cX6_joinFrom 36 = .ok (.lconst 0, 1) := by decide +kernel
theorem dX6_joinFrom_37 : decode cX6_joinFrom 37 = .ok (.lcmp, 1) := by decide +kernel
theorem dX6_joinFrom_38 : decode cX6_joinFrom 38 = .ok (.ifCond .le 71, 3) := by decide +kernel
theorem dX6_joinFrom_41 : decode cX6_joinFrom 41 = .ok (.aload_n 0, 1) := by decide +kernel
theorem dX6_joinFrom_42 : decode cX6_joinFrom 42 = .ok (.getfield 12, 3) := by decide +kernel
theorem dX6_joinFrom_45 : decode cX6_joinFrom 45 = .ok (.iload 4, 2) := by decide +kernel
theorem dX6_joinFrom_47 : decode cX6_joinFrom 47 = .ok (.iload_n 2, 1) := by decide +kernel
theorem dX6_joinFrom_48 : decode cX6_joinFrom 48 = .ok (.invokevirtual 86, 3) := by decide +kernel
theorem dX6_joinFrom_51 : decode cX6_joinFrom 51 = .ok (.ifCond .eq 32, 3) := by decide +kernel
theorem dX6_joinFrom_54 : decode cX6_joinFrom 54 = .ok (.iload_n 3, 1) := by decide +kernel
theorem dX6_joinFrom_55 : decode cX6_joinFrom 55 = .ok (.iconst 1, 1) := by decide +kernel
theorem dX6_joinFrom_56 : decode cX6_joinFrom 56 = .ok (.aload_n 0, 1) := by decide +kernel
theorem dX6_joinFrom_57 : decode cX6_joinFrom 57 = .ok (.getfield 12, 3) := by decide +kernel
theorem dX6_joinFrom_60 : decode cX6_joinFrom 60 = .ok (.getfield 76, 3) := by decide +kernel
theorem dX6_joinFrom_63 : decode cX6_joinFrom 63 = .ok (.iload 4, 2) := by decide +kernel
theorem dX6_joinFrom_65 : decode cX6_joinFrom 65 = .ok (.iaload, 1) := by decide +kernel
theorem dX6_joinFrom_66 : decode cX6_joinFrom 66 = .ok (.ishl, 1) := by decide +kernel
theorem dX6_joinFrom_67 : decode cX6_joinFrom 67 = .ok (.ior, 1) := by decide +kernel
theorem dX6_joinFrom_68 : decode cX6_joinFrom 68 = .ok (.istore_n 3, 1) := by decide +kernel
theorem dX6_joinFrom_69 : decode cX6_joinFrom 69 = .ok (.aload_n 0, 1) := by decide +kernel
theorem dX6_joinFrom_70 : decode cX6_joinFrom 70 = .ok (.getfield 12, 3) := by decide +kernel
theorem dX6_joinFrom_73 : decode cX6_joinFrom 73 = .ok (.getfield 165, 3) := by decide +kernel
theorem dX6_joinFrom_76 : decode cX6_joinFrom 76 = .ok (.iload 4, 2) := by decide +kernel
theorem dX6_joinFrom_78 : decode cX6_joinFrom 78 = .ok (.dup2, 1) := by decide +kernel
theorem dX6_joinFrom_79 : decode cX6_joinFrom 79 = .ok (.laload, 1) := by decide +kernel
theorem dX6_joinFrom_80 : decode cX6_joinFrom 80 = .ok (.lconst 1, 1) := by decide +kernel
theorem dX6_joinFrom_81 : decode cX6_joinFrom 81 = .ok (.ladd, 1) := by decide +kernel
theorem dX6_joinFrom_82 : decode cX6_joinFrom 82 = .ok (.lastore, 1) := by decide +kernel
theorem dX6_joinFrom_83 : decode cX6_joinFrom 83 = .ok (.aload_n 0, 1) := by decide +kernel
theorem dX6_joinFrom_84 : decode cX6_joinFrom 84 = .ok (.getfield 43, 3) := by decide +kernel
theorem dX6_joinFrom_87 : decode cX6_joinFrom 87 = .ok (.iload 4, 2) := by decide +kernel
theorem dX6_joinFrom_89 : decode cX6_joinFrom 89 = .ok (.invokevirtual 245, 3) := by decide +kernel
theorem dX6_joinFrom_92 : decode cX6_joinFrom 92 = .ok (.aload_n 0, 1) := by decide +kernel
theorem dX6_joinFrom_93 : decode cX6_joinFrom 93 = .ok (.getfield 30, 3) := by decide +kernel
theorem dX6_joinFrom_96 : decode cX6_joinFrom 96 = .ok (.iload 4, 2) := by decide +kernel
theorem dX6_joinFrom_98 : decode cX6_joinFrom 98 = .ok (.invokevirtual 248, 3) := by decide +kernel
theorem dX6_joinFrom_101 : decode cX6_joinFrom 101 = .ok (.istore 4, 2) := by decide +kernel
theorem dX6_joinFrom_103 : decode cX6_joinFrom 103 = .ok (.iinc 5 1, 3) := by decide +kernel
theorem dX6_joinFrom_106 : decode cX6_joinFrom 106 = .ok (.goto (-98), 3) := by decide +kernel
theorem dX6_joinFrom_109 : decode cX6_joinFrom 109 = .ok (.iload_n 3, 1) := by decide +kernel
theorem dX6_joinFrom_110 : decode cX6_joinFrom 110 = .ok (.ireturn, 1) := by decide +kernel
set_option maxRecDepth 20000 in
theorem ggX6_ripUp_X6_layOpen : GoodIn wsX6_ripUp wsX6_layOpen := goodIn_r _ [8, 2, 9, 10, 11, 12, 13, 14, 15, 16, 17, 18, 19, 20, 21, 22, 23, 24, 25, 26, 27, 28, 29, 30, 31, 32, 33, 34, 35, 36, 37, 38, 39, 40, 41, 42, 43] (by decide +kernel) (by decide +kernel)
set_option maxRecDepth 20000 in
theorem gX6_ripUp_X6_layOpen : GoodIn wsX6_ripUp (wsV RX6 94 RX6 yX6_layOpen wsX6_layOpen) := goodIn_app (goodIn_of _ (by decide +kernel)) ggX6_ripUp_X6_layOpen
theorem dX6_ripUp_0 : decode cX6_ripUp 0 = .ok (.iconst 0, 1) := by decide +kernel
theorem dX6_ripUp_1 : decode cX6_ripUp 1 = .ok (.istore_n 2, 1) := by decide +kernel
theorem dX6_ripUp_2 : decode cX6_ripUp 2 = .ok (.iload_n 2, 1) := by decide +kernel
theorem dX6_ripUp_3 : decode cX6_ripUp 3 = .ok (.aload_n 0, 1) := by decide +kernel
theorem dX6_ripUp_4 : decode cX6_ripUp 4 = .ok (.getfield 58, 3) := by decide +kernel
theorem dX6_ripUp_7 : decode cX6_ripUp 7 = .ok (.if_icmp .ge 37, 3) := by decide +kernel
theorem dX6_ripUp_10 : decode cX6_ripUp 10 = .ok (.iload_n 1, 1) := by decide +kernel
theorem dX6_ripUp_11 : decode cX6_ripUp 11 = .ok (.iload_n 2, 1) := by decide +kernel
theorem dX6_ripUp_12 : decode cX6_ripUp 12 = .ok (.iushr, 1) := by decide +kernel
theorem dX6_ripUp_13 : decode cX6_ripUp 13 = .ok (.iconst 1, 1) := by decide +kernel
theorem dX6_ripUp_14 : decode cX6_ripUp 14 = .ok (.iand, 1) := by decide +kernel
theorem dX6_ripUp_15 : decode cX6_ripUp 15 = .ok (.ifCond .eq 23, 3) := by decide +kernel
theorem dX6_ripUp_18 : decode cX6_ripUp 18 = .ok (.aload_n 0, 1) := by decide +kernel
theorem dX6_ripUp_19 : decode cX6_ripUp 19 = .ok (.iload_n 2, 1) := by decide +kernel
theorem dX6_ripUp_20 : decode cX6_ripUp 20 = .ok (.invokevirtual 94, 3) := by decide +kernel
theorem dX6_ripUp_23 : decode cX6_ripUp 23 = .ok (.aload_n 0, 1) := by decide +kernel
theorem dX6_ripUp_24 : decode cX6_ripUp 24 = .ok (.getfield 49, 3) := by decide +kernel
theorem dX6_ripUp_27 : decode cX6_ripUp 27 = .ok (.iload_n 2, 1) := by decide +kernel
theorem dX6_ripUp_28 : decode cX6_ripUp 28 = .ok (.aaload, 1) := by decide +kernel
theorem dX6_ripUp_29 : decode cX6_ripUp 29 = .ok (.dup, 1) := by decide +kernel
theorem dX6_ripUp_30 : decode cX6_ripUp 30 = .ok (.getfield 162, 3) := by decide +kernel
theorem dX6_ripUp_33 : decode cX6_ripUp 33 = .ok (.iconst 1, 1) := by decide +kernel
theorem dX6_ripUp_34 : decode cX6_ripUp 34 = .ok (.iadd, 1) := by decide +kernel
theorem dX6_ripUp_35 : decode cX6_ripUp 35 = .ok (.putfield 162, 3) := by decide +kernel
theorem dX6_ripUp_38 : decode cX6_ripUp 38 = .ok (.iinc 2 1, 3) := by decide +kernel
theorem dX6_ripUp_41 : decode cX6_ripUp 41 = .ok (.goto (-39), 3) := by decide +kernel
theorem dX6_ripUp_44 : decode cX6_ripUp 44 = .ok (.return_, 1) := by decide +kernel
set_option maxRecDepth 20000 in
theorem ggX6_hasFreeBends_X1_neighbour : GoodIn wsX6_hasFreeBends wsX1_neighbour := goodIn_r _ [7, 8, 9, 10, 31, 32, 33, 34, 35, 36, 37, 38, 39, 40] (by decide +kernel) (by decide +kernel)
set_option maxRecDepth 20000 in
theorem gX6_hasFreeBends_X1_neighbour : GoodIn wsX6_hasFreeBends (wsV RX6 251 RX1 yX1_neighbour wsX1_neighbour) := goodIn_app (goodIn_of _ (by decide +kernel)) ggX6_hasFreeBends_X1_neighbour
set_option maxRecDepth 20000 in
theorem ggX6_hasFreeBends_X6_isFreeBend : GoodIn wsX6_hasFreeBends wsX6_isFreeBend := goodIn_r _ [15, 1, 2, 16, 3, 4, 5, 6, 7, 8, 9, 10, 17, 18, 19, 20, 21, 22, 23, 24, 25, 26, 27, 28, 29, 30, 31, 32, 33, 34, 35, 36, 37, 38, 39, 40] (by decide +kernel) (by decide +kernel)
set_option maxRecDepth 20000 in
theorem gX6_hasFreeBends_X6_isFreeBend : GoodIn wsX6_hasFreeBends (wsV RX6 254 RX6 yX6_isFreeBend wsX6_isFreeBend) := goodIn_app (goodIn_of _ (by decide +kernel)) ggX6_hasFreeBends_X6_isFreeBend
theorem dX6_hasFreeBends_0 : decode cX6_hasFreeBends 0 = .ok (.iconst 2, 1) := by decide +kernel
theorem dX6_hasFreeBends_1 : decode cX6_hasFreeBends 1 = .ok (.istore_n 3, 1) := by decide +kernel
theorem dX6_hasFreeBends_2 : decode cX6_hasFreeBends 2 = .ok (.iload_n 3, 1) := by decide +kernel
theorem dX6_hasFreeBends_3 : decode cX6_hasFreeBends 3 = .ok (.iconst 3, 1) := by decide +kernel
theorem dX6_hasFreeBends_4 : decode cX6_hasFreeBends 4 = .ok (.if_icmp .gt 69, 3) := by decide +kernel
theorem dX6_hasFreeBends_7 : decode cX6_hasFreeBends 7 = .ok (.aload_n 0, 1) := by decide +kernel
theorem dX6_hasFreeBends_8 : decode cX6_hasFreeBends 8 = .ok (.getfield 12, 3) := by decide +kernel
theorem dX6_hasFreeBends_11 : decode cX6_hasFreeBends 11 = .ok (.iload_n 1, 1) := by decide +kernel
theorem dX6_hasFreeBends_12 : decode cX6_hasFreeBends 12 = .ok (.iload_n 3, 1) := by decide +kernel
theorem dX6_hasFreeBends_13 : decode cX6_hasFreeBends 13 = .ok (.invokevirtual 251, 3) := by decide +kernel
theorem dX6_hasFreeBends_16 : decode cX6_hasFreeBends 16 = .ok (.istore 4, 2) := by decide +kernel
theorem dX6_hasFreeBends_18 : decode cX6_hasFreeBends 18 = .ok (.iload 4, 2) := by decide +kernel
theorem dX6_hasFreeBends_20 : decode cX6_hasFreeBends 20 = .ok (.iconst (-1), 1) := by decide +kernel
theorem dX6_hasFreeBends_21 : decode cX6_hasFreeBends 21 = .ok (.if_icmp .eq 46, 3) := by decide +kernel
theorem dX6_hasFreeBends_24 : decode cX6_hasFreeBends 24 = .ok (.aload_n 0, 1) := by decide +kernel
theorem dX6_hasFreeBends_25 : decode cX6_hasFreeBends 25 = .ok (.getfield 12, 3) := by decide +kernel
theorem dX6_hasFreeBends_28 : decode cX6_hasFreeBends 28 = .ok (.getfield 76, 3) := by decide +kernel
theorem dX6_hasFreeBends_31 : decode cX6_hasFreeBends 31 = .ok (.iload 4, 2) := by decide +kernel
theorem dX6_hasFreeBends_33 : decode cX6_hasFreeBends 33 = .ok (.iaload, 1) := by decide +kernel
theorem dX6_hasFreeBends_34 : decode cX6_hasFreeBends 34 = .ok (.iload_n 2, 1) := by decide +kernel
theorem dX6_hasFreeBends_35 : decode cX6_hasFreeBends 35 = .ok (.if_icmp .eq 6, 3) := by decide +kernel
theorem dX6_hasFreeBends_38 : decode cX6_hasFreeBends 38 = .ok (.goto 29, 3) := by decide +kernel
theorem dX6_hasFreeBends_41 : decode cX6_hasFreeBends 41 = .ok (.aload_n 0, 1) := by decide +kernel
theorem dX6_hasFreeBends_42 : decode cX6_hasFreeBends 42 = .ok (.iload_n 1, 1) := by decide +kernel
theorem dX6_hasFreeBends_43 : decode cX6_hasFreeBends 43 = .ok (.iload 4, 2) := by decide +kernel
theorem dX6_hasFreeBends_45 : decode cX6_hasFreeBends 45 = .ok (.iconst 1, 1) := by decide +kernel
theorem dX6_hasFreeBends_46 : decode cX6_hasFreeBends 46 = .ok (.iload_n 2, 1) := by decide +kernel
theorem dX6_hasFreeBends_47 : decode cX6_hasFreeBends 47 = .ok (.invokevirtual 254, 3) := by decide +kernel
theorem dX6_hasFreeBends_50 : decode cX6_hasFreeBends 50 = .ok (.ifCond .eq 15, 3) := by decide +kernel
theorem dX6_hasFreeBends_53 : decode cX6_hasFreeBends 53 = .ok (.aload_n 0, 1) := by decide +kernel
theorem dX6_hasFreeBends_54 : decode cX6_hasFreeBends 54 = .ok (.iload_n 1, 1) := by decide +kernel
theorem dX6_hasFreeBends_55 : decode cX6_hasFreeBends 55 = .ok (.iload 4, 2) := by decide +kernel
theorem dX6_hasFreeBends_57 : decode cX6_hasFreeBends 57 = .ok (.iconst 4, 1) := by decide +kernel
theorem dX6_hasFreeBends_58 : decode cX6_hasFreeBends 58 = .ok (.iload_n 2, 1) := by decide +kernel
theorem dX6_hasFreeBends_59 : decode cX6_hasFreeBends 59 = .ok (.invokevirtual 254, 3) := by decide +kernel
theorem dX6_hasFreeBends_62 : decode cX6_hasFreeBends 62 = .ok (.ifCond .ne 5, 3) := by decide +kernel
theorem dX6_hasFreeBends_65 : decode cX6_hasFreeBends 65 = .ok (.iconst 0, 1) := by decide +kernel
theorem dX6_hasFreeBends_66 : decode cX6_hasFreeBends 66 = .ok (.ireturn, 1) := by decide +kernel
theorem dX6_hasFreeBends_67 : decode cX6_hasFreeBends 67 = .ok (.iinc 3 1, 3) := by decide +kernel
theorem dX6_hasFreeBends_70 : decode cX6_hasFreeBends 70 = .ok (.goto (-68), 3) := by decide +kernel
theorem dX6_hasFreeBends_73 : decode cX6_hasFreeBends 73 = .ok (.iconst 1, 1) := by decide +kernel
theorem dX6_hasFreeBends_74 : decode cX6_hasFreeBends 74 = .ok (.ireturn, 1) := by decide +kernel
set_option maxRecDepth 20000 in
theorem ggX6_isFreeBend_X1_neighbour : GoodIn wsX6_isFreeBend wsX1_neighbour := goodIn_r _ [8, 9, 10, 11, 26, 27, 28, 29, 30, 31, 32, 33, 34, 35] (by decide +kernel) (by decide +kernel)
set_option maxRecDepth 20000 in
theorem gX6_isFreeBend_X1_neighbour : GoodIn wsX6_isFreeBend (wsV RX6 251 RX1 yX1_neighbour wsX1_neighbour) := goodIn_app (goodIn_of _ (by decide +kernel)) ggX6_isFreeBend_X1_neighbour
set_option maxRecDepth 20000 in
theorem ggX6_isFreeBend_X1_heldByOther : GoodIn wsX6_isFreeBend wsX1_heldByOther := goodIn_r _ [15, 16, 26, 27, 28, 29, 30, 31, 32, 33, 34, 35] (by decide +kernel) (by decide +kernel)
set_option maxRecDepth 20000 in
theorem gX6_isFreeBend_X1_heldByOther : GoodIn wsX6_isFreeBend (wsV RX6 86 RX1 yX1_heldByOther wsX1_heldByOther) := goodIn_app (goodIn_of _ (by decide +kernel)) ggX6_isFreeBend_X1_heldByOther
theorem dX6_isFreeBend_0 : decode cX6_isFreeBend 0 = .ok (.aload_n 0, 1) := by decide +kernel
theorem dX6_isFreeBend_1 : decode cX6_isFreeBend 1 = .ok (.getfield 12, 3) := by decide +kernel
theorem dX6_isFreeBend_4 : decode cX6_isFreeBend 4 = .ok (.iload_n 1, 1) := by decide +kernel
theorem dX6_isFreeBend_5 : decode cX6_isFreeBend 5 = .ok (.iload_n 3, 1) := by decide +kernel
theorem dX6_isFreeBend_6 : decode cX6_isFreeBend 6 = .ok (.invokevirtual 251, 3) := by decide +kernel
theorem dX6_isFreeBend_9 : decode cX6_isFreeBend 9 = .ok (.istore 5, 2) := by decide +kernel
theorem dX6_isFreeBend_11 : decode cX6_isFreeBend 11 = .ok (.aload_n 0, 1) := by decide +kernel
theorem dX6_isFreeBend_12 : decode cX6_isFreeBend 12 = .ok (.getfield 12, 3) := by decide +kernel
theorem dX6_isFreeBend_15 : decode cX6_isFreeBend 15 = .ok (.iload_n 2, 1) := by decide +kernel
theorem dX6_isFreeBend_16 : decode cX6_isFreeBend 16 = .ok (.iload_n 3, 1) := by decide +kernel
theorem dX6_isFreeBend_17 : decode cX6_isFreeBend 17 = .ok (.invokevirtual 251, 3) := by decide +kernel
theorem dX6_isFreeBend_20 : decode cX6_isFreeBend 20 = .ok (.istore 6, 2) := by decide +kernel
theorem dX6_isFreeBend_22 : decode cX6_isFreeBend 22 = .ok (.iload 5, 2) := by decide +kernel
theorem dX6_isFreeBend_24 : decode cX6_isFreeBend 24 = .ok (.iconst (-1), 1) := by decide +kernel
theorem dX6_isFreeBend_25 : decode cX6_isFreeBend 25 = .ok (.if_icmp .eq 24, 3) := by decide +kernel
theorem dX6_isFreeBend_28 : decode cX6_isFreeBend 28 = .ok (.iload 6, 2) := by decide +kernel
theorem dX6_isFreeBend_30 : decode cX6_isFreeBend 30 = .ok (.iconst (-1), 1) := by decide +kernel
theorem dX6_isFreeBend_31 : decode cX6_isFreeBend 31 = .ok (.if_icmp .eq 18, 3) := by decide +kernel
theorem dX6_isFreeBend_34 : decode cX6_isFreeBend 34 = .ok (.aload_n 0, 1) := by decide +kernel
theorem dX6_isFreeBend_35 : decode cX6_isFreeBend 35 = .ok (.getfield 12, 3) := by decide +kernel
theorem dX6_isFreeBend_38 : decode cX6_isFreeBend 38 = .ok (.getfield 76, 3) := by decide +kernel
theorem dX6_isFreeBend_41 : decode cX6_isFreeBend 41 = .ok (.iload 5, 2) := by decide +kernel
theorem dX6_isFreeBend_43 : decode cX6_isFreeBend 43 = .ok (.iaload, 1) := by decide +kernel
theorem dX6_isFreeBend_44 : decode cX6_isFreeBend 44 = .ok (.iload 4, 2) := by decide +kernel
theorem dX6_isFreeBend_46 : decode cX6_isFreeBend 46 = .ok (.if_icmp .eq 5, 3) := by decide +kernel
theorem dX6_isFreeBend_49 : decode cX6_isFreeBend 49 = .ok (.iconst 1, 1) := by decide +kernel
theorem dX6_isFreeBend_50 : decode cX6_isFreeBend 50 = .ok (.ireturn, 1) := by decide +kernel
theorem dX6_isFreeBend_51 : decode cX6_isFreeBend 51 = .ok (.aload_n 0, 1) := by decide +kernel
theorem dX6_isFreeBend_52 : decode cX6_isFreeBend 52 = .ok (.getfield 12, 3) := by decide +kernel
theorem dX6_isFreeBend_55 : decode cX6_isFreeBend 55 = .ok (.getfield 72, 3) := by decide +kernel
theorem dX6_isFreeBend_58 : decode cX6_isFreeBend 58 = .ok (.iload 6, 2) := by decide +kernel
theorem dX6_isFreeBend_60 : decode cX6_isFreeBend 60 = .ok (.baload, 1) := by decide +kernel
theorem dX6_isFreeBend_61 : decode cX6_isFreeBend 61 = .ok (.ifCond .ne 21, 3) := by decide +kernel
theorem dX6_isFreeBend_64 : decode cX6_isFreeBend 64 = .ok (.aload_n 0, 1) := by decide +kernel
theorem dX6_isFreeBend_65 : decode cX6_isFreeBend 65 = .ok (.getfield 12, 3) := by decide +kernel
theorem dX6_isFreeBend_68 : decode cX6_isFreeBend 68 = .ok (.iload 6, 2) := by decide +kernel
theorem dX6_isFreeBend_70 : decode cX6_isFreeBend 70 = .ok (.iload 4, 2) := by decide +kernel
theorem dX6_isFreeBend_72 : decode cX6_isFreeBend 72 = .ok (.invokevirtual 86, 3) := by decide +kernel
theorem dX6_isFreeBend_75 : decode cX6_isFreeBend 75 = .ok (.ifCond .ne 7, 3) := by decide +kernel
theorem dX6_isFreeBend_78 : decode cX6_isFreeBend 78 = .ok (.iconst 1, 1) := by decide +kernel
theorem dX6_isFreeBend_79 : decode cX6_isFreeBend 79 = .ok (.goto 4, 3) := by decide +kernel
theorem dX6_isFreeBend_82 : decode cX6_isFreeBend 82 = .ok (.iconst 0, 1) := by decide +kernel
theorem dX6_isFreeBend_83 : decode cX6_isFreeBend 83 = .ok (.ireturn, 1) := by decide +kernel
