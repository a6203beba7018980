theorem dX0_init_0 : decode cX0_init 0 = .ok (.aload_n 0, 1) := by decide +kernel
theorem dX0_init_1 : decode cX0_init 1 = .ok (.invokespecial 3, 3) := by decide +kernel
theorem dX0_init_4 : decode cX0_init 4 = .ok (.aload_n 0, 1) := by decide +kernel
theorem dX0_init_5 : decode cX0_init 5 = .ok (.iconst 4, 1) := by decide +kernel
theorem dX0_init_6 : decode cX0_init 6 = .ok (.newarray .int, 2) := by decide +kernel
theorem dX0_init_8 : decode cX0_init 8 = .ok (.putfield 11, 3) := by decide +kernel
theorem dX0_init_11 : decode cX0_init 11 = .ok (.aload_n 0, 1) := by decide +kernel
theorem dX0_init_12 : decode cX0_init 12 = .ok (.iconst 4, 1) := by decide +kernel
theorem dX0_init_13 : decode cX0_init 13 = .ok (.newarray .int, 2) := by decide +kernel
theorem dX0_init_15 : decode cX0_init 15 = .ok (.putfield 15, 3) := by decide +kernel
theorem dX0_init_18 : decode cX0_init 18 = .ok (.aload_n 0, 1) := by decide +kernel
theorem dX0_init_19 : decode cX0_init 19 = .ok (.iconst 0, 1) := by decide +kernel
theorem dX0_init_20 : decode cX0_init 20 = .ok (.putfield 18, 3) := by decide +kernel
theorem dX0_init_23 : decode cX0_init 23 = .ok (.aload_n 0, 1) := by decide +kernel
theorem dX0_init_24 : decode cX0_init 24 = .ok (.iconst 0, 1) := by decide +kernel
theorem dX0_init_25 : decode cX0_init 25 = .ok (.putfield 22, 3) := by decide +kernel
theorem dX0_init_28 : decode cX0_init 28 = .ok (.aload_n 0, 1) := by decide +kernel
theorem dX0_init_29 : decode cX0_init 29 = .ok (.iconst (-1), 1) := by decide +kernel
theorem dX0_init_30 : decode cX0_init 30 = .ok (.putfield 25, 3) := by decide +kernel
theorem dX0_init_33 : decode cX0_init 33 = .ok (.return_, 1) := by decide +kernel
set_option maxRecDepth 20000 in
theorem ggX0_begin_J7_fill_53178 : GoodIn wsX0_begin wsJ7_fill_53178 := goodIn_r _ [9] (by decide +kernel) (by decide +kernel)
set_option maxRecDepth 20000 in
theorem gX0_begin_J7_fill_53178 : GoodIn wsX0_begin (va_wsS RX0 28 yJ7_fill_53178 wsJ7_fill_53178) := goodIn_app (goodIn_of _ (by decide +kernel)) ggX0_begin_J7_fill_53178
theorem dX0_begin_0 : decode cX0_begin 0 = .ok (.iload_n 1, 1) := by decide +kernel
theorem dX0_begin_1 : decode cX0_begin 1 = .ok (.iconst 1, 1) := by decide +kernel
theorem dX0_begin_2 : decode cX0_begin 2 = .ok (.if_icmp .lt 8, 3) := by decide +kernel
theorem dX0_begin_5 : decode cX0_begin 5 = .ok (.iload_n 1, 1) := by decide +kernel
theorem dX0_begin_6 : decode cX0_begin 6 = .ok (.iconst 4, 1) := by decide +kernel
theorem dX0_begin_7 : decode cX0_begin 7 = .ok (.if_icmp .le 5, 3) := by decide +kernel
theorem dX0_begin_10 : decode cX0_begin 10 = .ok (.iconst 0, 1) := by decide +kernel
theorem dX0_begin_11 : decode cX0_begin 11 = .ok (.ireturn, 1) := by decide +kernel
theorem dX0_begin_12 : decode cX0_begin 12 = .ok (.aload_n 0, 1) := by decide +kernel
theorem dX0_begin_13 : decode cX0_begin 13 = .ok (.iload_n 1, 1) := by decide +kernel
theorem dX0_begin_14 : decode cX0_begin 14 = .ok (.putfield 18, 3) := by decide +kernel
theorem dX0_begin_17 : decode cX0_begin 17 = .ok (.aload_n 0, 1) := by decide +kernel
theorem dX0_begin_18 : decode cX0_begin 18 = .ok (.iconst 0, 1) := by decide +kernel
theorem dX0_begin_19 : decode cX0_begin 19 = .ok (.putfield 22, 3) := by decide +kernel
theorem dX0_begin_22 : decode cX0_begin 22 = .ok (.aload_n 0, 1) := by decide +kernel
theorem dX0_begin_23 : decode cX0_begin 23 = .ok (.iconst (-1), 1) := by decide +kernel
theorem dX0_begin_24 : decode cX0_begin 24 = .ok (.putfield 25, 3) := by decide +kernel
theorem dX0_begin_27 : decode cX0_begin 27 = .ok (.aload_n 0, 1) := by decide +kernel
theorem dX0_begin_28 : decode cX0_begin 28 = .ok (.getfield 11, 3) := by decide +kernel
theorem dX0_begin_31 : decode cX0_begin 31 = .ok (.iconst 0, 1) := by decide +kernel
theorem dX0_begin_32 : decode cX0_begin 32 = .ok (.invokestatic 28, 3) := by decide +kernel
theorem dX0_begin_35 : decode cX0_begin 35 = .ok (.aload_n 0, 1) := by decide +kernel
theorem dX0_begin_36 : decode cX0_begin 36 = .ok (.getfield 15, 3) := by decide +kernel
theorem dX0_begin_39 : decode cX0_begin 39 = .ok (.iconst 0, 1) := by decide +kernel
theorem dX0_begin_40 : decode cX0_begin 40 = .ok (.invokestatic 28, 3) := by decide +kernel
theorem dX0_begin_43 : decode cX0_begin 43 = .ok (.iconst 1, 1) := by decide +kernel
theorem dX0_begin_44 : decode cX0_begin 44 = .ok (.ireturn, 1) := by decide +kernel
set_option maxRecDepth 20000 in
theorem ggX0_tellOrder_X0_isOrder : GoodIn wsX0_tellOrder wsX0_isOrder := goodIn_r _ [10, 1, 11, 12, 13, 21, 22, 23, 24, 25] (by decide +kernel) (by decide +kernel)
set_option maxRecDepth 20000 in
theorem gX0_tellOrder_X0_isOrder : GoodIn wsX0_tellOrder (wsV RX0 34 RX0 yX0_isOrder wsX0_isOrder) := goodIn_app (goodIn_of _ (by decide +kernel)) ggX0_tellOrder_X0_isOrder
set_option maxRecDepth 20000 in
theorem ggX0_tellOrder_X0_findChampion : GoodIn wsX0_tellOrder wsX0_findChampion := goodIn_r _ [17, 1, 4, 3, 5, 18, 19, 9, 20, 21, 22, 23, 24, 25] (by decide +kernel) (by decide +kernel)
set_option maxRecDepth 20000 in
theorem gX0_tellOrder_X0_findChampion : GoodIn wsX0_tellOrder (wsV RX0 38 RX0 yX0_findChampion wsX0_findChampion) := goodIn_app (goodIn_of _ (by decide +kernel)) ggX0_tellOrder_X0_findChampion
theorem dX0_tellOrder_0 : decode cX0_tellOrder 0 = .ok (.aload_n 0, 1) := by decide +kernel
theorem dX0_tellOrder_1 : decode cX0_tellOrder 1 = .ok (.getfield 18, 3) := by decide +kernel
theorem dX0_tellOrder_4 : decode cX0_tellOrder 4 = .ok (.ifCond .eq 19, 3) := by decide +kernel
theorem dX0_tellOrder_7 : decode cX0_tellOrder 7 = .ok (.aload_n 0, 1) := by decide +kernel
theorem dX0_tellOrder_8 : decode cX0_tellOrder 8 = .ok (.getfield 25, 3) := by decide +kernel
theorem dX0_tellOrder_11 : decode cX0_tellOrder 11 = .ok (.iconst (-1), 1) := by decide +kernel
theorem dX0_tellOrder_12 : decode cX0_tellOrder 12 = .ok (.if_icmp .ne 11, 3) := by decide +kernel
theorem dX0_tellOrder_15 : decode cX0_tellOrder 15 = .ok (.aload_n 0, 1) := by decide +kernel
theorem dX0_tellOrder_16 : decode cX0_tellOrder 16 = .ok (.iload_n 1, 1) := by decide +kernel
theorem dX0_tellOrder_17 : decode cX0_tellOrder 17 = .ok (.invokevirtual 34, 3) := by decide +kernel
theorem dX0_tellOrder_20 : decode cX0_tellOrder 20 = .ok (.ifCond .ne 5, 3) := by decide +kernel
theorem dX0_tellOrder_23 : decode cX0_tellOrder 23 = .ok (.iconst (-1), 1) := by decide +kernel
theorem dX0_tellOrder_24 : decode cX0_tellOrder 24 = .ok (.ireturn, 1) := by decide +kernel
theorem dX0_tellOrder_25 : decode cX0_tellOrder 25 = .ok (.iload_n 1, 1) := by decide +kernel
theorem dX0_tellOrder_26 : decode cX0_tellOrder 26 = .ok (.istore_n 2, 1) := by decide +kernel
theorem dX0_tellOrder_27 : decode cX0_tellOrder 27 = .ok (.iconst 1, 1) := by decide +kernel
theorem dX0_tellOrder_28 : decode cX0_tellOrder 28 = .ok (.istore_n 3, 1) := by decide +kernel
theorem dX0_tellOrder_29 : decode cX0_tellOrder 29 = .ok (.iload_n 3, 1) := by decide +kernel
theorem dX0_tellOrder_30 : decode cX0_tellOrder 30 = .ok (.aload_n 0, 1) := by decide +kernel
theorem dX0_tellOrder_31 : decode cX0_tellOrder 31 = .ok (.getfield 18, 3) := by decide +kernel
theorem dX0_tellOrder_34 : decode cX0_tellOrder 34 = .ok (.if_icmp .gt 47, 3) := by decide +kernel
theorem dX0_tellOrder_37 : decode cX0_tellOrder 37 = .ok (.iload_n 2, 1) := by decide +kernel
theorem dX0_tellOrder_38 : decode cX0_tellOrder 38 = .ok (.bipush 10, 2) := by decide +kernel
theorem dX0_tellOrder_40 : decode cX0_tellOrder 40 = .ok (.irem, 1) := by decide +kernel
theorem dX0_tellOrder_41 : decode cX0_tellOrder 41 = .ok (.istore 4, 2) := by decide +kernel
theorem dX0_tellOrder_43 : decode cX0_tellOrder 43 = .ok (.iload_n 2, 1) := by decide +kernel
theorem dX0_tellOrder_44 : decode cX0_tellOrder 44 = .ok (.bipush 10, 2) := by decide +kernel
theorem dX0_tellOrder_46 : decode cX0_tellOrder 46 = .ok (.idiv, 1) := by decide +kernel
theorem dX0_tellOrder_47 : decode cX0_tellOrder 47 = .ok (.istore_n 2, 1) := by decide +kernel
theorem dX0_tellOrder_48 : decode cX0_tellOrder 48 = .ok (.aload_n 0, 1) := by decide +kernel
theorem dX0_tellOrder_49 : decode cX0_tellOrder 49 = .ok (.getfield 15, 3) := by decide +kernel
theorem dX0_tellOrder_52 : decode cX0_tellOrder 52 = .ok (.iload 4, 2) := by decide +kernel
theorem dX0_tellOrder_54 : decode cX0_tellOrder 54 = .ok (.dup2, 1) := by decide +kernel
theorem dX0_tellOrder_55 : decode cX0_tellOrder 55 = .ok (.iaload, 1) := by decide +kernel
theorem dX0_tellOrder_56 : decode cX0_tellOrder 56 = .ok (.iload_n 3, 1) := by decide +kernel
theorem dX0_tellOrder_57 : decode cX0_tellOrder 57 = .ok (.iadd, 1) := by decide +kernel
theorem dX0_tellOrder_58 : decode cX0_tellOrder 58 = .ok (.iastore, 1) := by decide +kernel
theorem dX0_tellOrder_59 : decode cX0_tellOrder 59 = .ok (.iload_n 3, 1) := by decide +kernel
theorem dX0_tellOrder_60 : decode cX0_tellOrder 60 = .ok (.iconst 1, 1) := by decide +kernel
theorem dX0_tellOrder_61 : decode cX0_tellOrder 61 = .ok (.if_icmp .ne 14, 3) := by decide +kernel
theorem dX0_tellOrder_64 : decode cX0_tellOrder 64 = .ok (.aload_n 0, 1) := by decide +kernel
theorem dX0_tellOrder_65 : decode cX0_tellOrder 65 = .ok (.getfield 11, 3) := by decide +kernel
theorem dX0_tellOrder_68 : decode cX0_tellOrder 68 = .ok (.iload 4, 2) := by decide +kernel
theorem dX0_tellOrder_70 : decode cX0_tellOrder 70 = .ok (.dup2, 1) := by decide +kernel
theorem dX0_tellOrder_71 : decode cX0_tellOrder 71 = .ok (.iaload, 1) := by decide +kernel
theorem dX0_tellOrder_72 : decode cX0_tellOrder 72 = .ok (.iconst 1, 1) := by decide +kernel
theorem dX0_tellOrder_73 : decode cX0_tellOrder 73 = .ok (.iadd, 1) := by decide +kernel
theorem dX0_tellOrder_74 : decode cX0_tellOrder 74 = .ok (.iastore, 1) := by decide +kernel
theorem dX0_tellOrder_75 : decode cX0_tellOrder 75 = .ok (.iinc 3 1, 3) := by decide +kernel
theorem dX0_tellOrder_78 : decode cX0_tellOrder 78 = .ok (.goto (-49), 3) := by decide +kernel
theorem dX0_tellOrder_81 : decode cX0_tellOrder 81 = .ok (.aload_n 0, 1) := by decide +kernel
theorem dX0_tellOrder_82 : decode cX0_tellOrder 82 = .ok (.dup, 1) := by decide +kernel
theorem dX0_tellOrder_83 : decode cX0_tellOrder 83 = .ok (.getfield 22, 3) := by decide +kernel
theorem dX0_tellOrder_86 : decode cX0_tellOrder 86 = .ok (.iconst 1, 1) := by decide +kernel
theorem dX0_tellOrder_87 : decode cX0_tellOrder 87 = .ok (.iadd, 1) := by decide +kernel
theorem dX0_tellOrder_88 : decode cX0_tellOrder 88 = .ok (.putfield 22, 3) := by decide +kernel
theorem dX0_tellOrder_91 : decode cX0_tellOrder 91 = .ok (.aload_n 0, 1) := by decide +kernel
theorem dX0_tellOrder_92 : decode cX0_tellOrder 92 = .ok (.aload_n 0, 1) := by decide +kernel
theorem dX0_tellOrder_93 : decode cX0_tellOrder 93 = .ok (.invokevirtual 38, 3) := by decide +kernel
theorem dX0_tellOrder_96 : decode cX0_tellOrder 96 = .ok (.putfield 25, 3) := by decide +kernel
theorem dX0_tellOrder_99 : decode cX0_tellOrder 99 = .ok (.aload_n 0, 1) := by decide +kernel
theorem dX0_tellOrder_100 : decode cX0_tellOrder 100 = .ok (.getfield 22, 3) := by decide +kernel
theorem dX0_tellOrder_103 : decode cX0_tellOrder 103 = .ok (.ireturn, 1) := by decide +kernel
set_option maxRecDepth 20000 in
theorem ggX0_isOrder_X4_hasBit : GoodIn wsX0_isOrder wsX4_hasBit := goodIn_r _ [4] (by decide +kernel) (by decide +kernel)
set_option maxRecDepth 20000 in
theorem gX0_isOrder_X4_hasBit_n42 : GoodIn wsX0_isOrder (wsX4_hasBit) := ggX0_isOrder_X4_hasBit
theorem dX0_isOrder_0 : decode cX0_isOrder 0 = .ok (.iload_n 1, 1) := by decide +kernel
theorem dX0_isOrder_1 : decode cX0_isOrder 1 = .ok (.istore_n 2, 1) := by decide +kernel
theorem dX0_isOrder_2 : decode cX0_isOrder 2 = .ok (.iconst 0, 1) := by decide +kernel
theorem dX0_isOrder_3 : decode cX0_isOrder 3 = .ok (.istore_n 3, 1) := by decide +kernel
theorem dX0_isOrder_4 : decode cX0_isOrder 4 = .ok (.iconst 0, 1) := by decide +kernel
theorem dX0_isOrder_5 : decode cX0_isOrder 5 = .ok (.istore 4, 2) := by decide +kernel
theorem dX0_isOrder_7 : decode cX0_isOrder 7 = .ok (.iload 4, 2) := by decide +kernel
theorem dX0_isOrder_9 : decode cX0_isOrder 9 = .ok (.aload_n 0, 1) := by decide +kernel
theorem dX0_isOrder_10 : decode cX0_isOrder 10 = .ok (.getfield 18, 3) := by decide +kernel
theorem dX0_isOrder_13 : decode cX0_isOrder 13 = .ok (.if_icmp .ge 52, 3) := by decide +kernel
theorem dX0_isOrder_16 : decode cX0_isOrder 16 = .ok (.iload_n 2, 1) := by decide +kernel
theorem dX0_isOrder_17 : decode cX0_isOrder 17 = .ok (.bipush 10, 2) := by decide +kernel
theorem dX0_isOrder_19 : decode cX0_isOrder 19 = .ok (.irem, 1) := by decide +kernel
theorem dX0_isOrder_20 : decode cX0_isOrder 20 = .ok (.istore 5, 2) := by decide +kernel
theorem dX0_isOrder_22 : decode cX0_isOrder 22 = .ok (.iload 5, 2) := by decide +kernel
theorem dX0_isOrder_24 : decode cX0_isOrder 24 = .ok (.ifCond .lt 21, 3) := by decide +kernel
theorem dX0_isOrder_27 : decode cX0_isOrder 27 = .ok (.iload 5, 2) := by decide +kernel
theorem dX0_isOrder_29 : decode cX0_isOrder 29 = .ok (.aload_n 0, 1) := by decide +kernel
theorem dX0_isOrder_30 : decode cX0_isOrder 30 = .ok (.getfield 18, 3) := by decide +kernel
theorem dX0_isOrder_33 : decode cX0_isOrder 33 = .ok (.if_icmp .ge 12, 3) := by decide +kernel
theorem dX0_isOrder_36 : decode cX0_isOrder 36 = .ok (.iload_n 3, 1) := by decide +kernel
theorem dX0_isOrder_37 : decode cX0_isOrder 37 = .ok (.iload 5, 2) := by decide +kernel
theorem dX0_isOrder_39 : decode cX0_isOrder 39 = .ok (.invokestatic 42, 3) := by decide +kernel
theorem dX0_isOrder_42 : decode cX0_isOrder 42 = .ok (.ifCond .eq 5, 3) := by decide +kernel
theorem dX0_isOrder_45 : decode cX0_isOrder 45 = .ok (.iconst 0, 1) := by decide +kernel
theorem dX0_isOrder_46 : decode cX0_isOrder 46 = .ok (.ireturn, 1) := by decide +kernel
theorem dX0_isOrder_47 : decode cX0_isOrder 47 = .ok (.iload_n 3, 1) := by decide +kernel
theorem dX0_isOrder_48 : decode cX0_isOrder 48 = .ok (.iconst 1, 1) := by decide +kernel
theorem dX0_isOrder_49 : decode cX0_isOrder 49 = .ok (.iload 5, 2) := by decide +kernel
theorem dX0_isOrder_51 : decode cX0_isOrder 51 = .ok (.ishl, 1) := by decide +kernel
theorem dX0_isOrder_52 : decode cX0_isOrder 52 = .ok (.ior, 1) := by decide +kernel
theorem dX0_isOrder_53 : decode cX0_isOrder 53 = .ok (.istore_n 3, 1) := by decide +kernel
theorem dX0_isOrder_54 : decode cX0_isOrder 54 = .ok (.iload_n 2, 1) := by decide +kernel
theorem dX0_isOrder_55 : decode cX0_isOrder 55 = .ok (.bipush 10, 2) := by decide +kernel
theorem dX0_isOrder_57 : decode cX0_isOrder 57 = .ok (.idiv, 1) := by decide +kernel
theorem dX0_isOrder_58 : decode cX0_isOrder 58 = .ok (.istore_n 2, 1) := by decide +kernel
theorem dX0_isOrder_59 : decode cX0_isOrder 59 = .ok (.iinc 4 1, 3) := by decide +kernel
theorem dX0_isOrder_62 : decode cX0_isOrder 62 = .ok (.goto (-55), 3) := by decide +kernel
theorem dX0_isOrder_65 : decode cX0_isOrder 65 = .ok (.iload_n 1, 1) := by decide +kernel
theorem dX0_isOrder_66 : decode cX0_isOrder 66 = .ok (.ifCond .lt 11, 3) := by decide +kernel
theorem dX0_isOrder_69 : decode cX0_isOrder 69 = .ok (.iload_n 2, 1) := by decide +kernel
theorem dX0_isOrder_70 : decode cX0_isOrder 70 = .ok (.ifCond .ne 7, 3) := by decide +kernel
theorem dX0_isOrder_73 : decode cX0_isOrder 73 = .ok (.iconst 1, 1) := by decide +kernel
theorem dX0_isOrder_74 : decode cX0_isOrder 74 = .ok (.goto 4, 3) := by decide +kernel
theorem dX0_isOrder_77 : decode cX0_isOrder 77 = .ok (.iconst 0, 1) := by decide +kernel
theorem dX0_isOrder_78 : decode cX0_isOrder 78 = .ok (.ireturn, 1) := by decide +kernel
set_option maxRecDepth 20000 in
theorem ggX0_findChampion_X0_isAhead : GoodIn wsX0_findChampion wsX0_isAhead := goodIn_r _ [8] (by decide +kernel) (by decide +kernel)
set_option maxRecDepth 20000 in
theorem gX0_findChampion_X0_isAhead : GoodIn wsX0_findChampion (va_wsS RX0 46 yX0_isAhead wsX0_isAhead) := goodIn_app (goodIn_of _ (by decide +kernel)) ggX0_findChampion_X0_isAhead
theorem dX0_findChampion_0 : decode cX0_findChampion 0 = .ok (.iconst 0, 1) := by decide +kernel
theorem dX0_findChampion_1 : decode cX0_findChampion 1 = .ok (.istore_n 1, 1) := by decide +kernel
theorem dX0_findChampion_2 : decode cX0_findChampion 2 = .ok (.iconst 1, 1) := by decide +kernel
theorem dX0_findChampion_3 : decode cX0_findChampion 3 = .ok (.istore_n 2, 1) := by decide +kernel
theorem dX0_findChampion_4 : decode cX0_findChampion 4 = .ok (.iload_n 2, 1) := by decide +kernel
theorem dX0_findChampion_5 : decode cX0_findChampion 5 = .ok (.aload_n 0, 1) := by decide +kernel
theorem dX0_findChampion_6 : decode cX0_findChampion 6 = .ok (.getfield 18, 3) := by decide +kernel
theorem dX0_findChampion_9 : decode cX0_findChampion 9 = .ok (.if_icmp .ge 43, 3) := by decide +kernel
theorem dX0_findChampion_12 : decode cX0_findChampion 12 = .ok (.iload_n 2, 1) := by decide +kernel
theorem dX0_findChampion_13 : decode cX0_findChampion 13 = .ok (.aload_n 0, 1) := by decide +kernel
theorem dX0_findChampion_14 : decode cX0_findChampion 14 = .ok (.getfield 11, 3) := by decide +kernel
theorem dX0_findChampion_17 : decode cX0_findChampion 17 = .ok (.iload_n 2, 1) := by decide +kernel
theorem dX0_findChampion_18 : decode cX0_findChampion 18 = .ok (.iaload, 1) := by decide +kernel
theorem dX0_findChampion_19 : decode cX0_findChampion 19 = .ok (.aload_n 0, 1) := by decide +kernel
theorem dX0_findChampion_20 : decode cX0_findChampion 20 = .ok (.getfield 15, 3) := by decide +kernel
theorem dX0_findChampion_23 : decode cX0_findChampion 23 = .ok (.iload_n 2, 1) := by decide +kernel
theorem dX0_findChampion_24 : decode cX0_findChampion 24 = .ok (.iaload, 1) := by decide +kernel
theorem dX0_findChampion_25 : decode cX0_findChampion 25 = .ok (.iload_n 1, 1) := by decide +kernel
theorem dX0_findChampion_26 : decode cX0_findChampion 26 = .ok (.aload_n 0, 1) := by decide +kernel
theorem dX0_findChampion_27 : decode cX0_findChampion 27 = .ok (.getfield 11, 3) := by decide +kernel
theorem dX0_findChampion_30 : decode cX0_findChampion 30 = .ok (.iload_n 1, 1) := by decide +kernel
theorem dX0_findChampion_31 : decode cX0_findChampion 31 = .ok (.iaload, 1) := by decide +kernel
theorem dX0_findChampion_32 : decode cX0_findChampion 32 = .ok (.aload_n 0, 1) := by decide +kernel
theorem dX0_findChampion_33 : decode cX0_findChampion 33 = .ok (.getfield 15, 3) := by decide +kernel
theorem dX0_findChampion_36 : decode cX0_findChampion 36 = .ok (.iload_n 1, 1) := by decide +kernel
theorem dX0_findChampion_37 : decode cX0_findChampion 37 = .ok (.iaload, 1) := by decide +kernel
theorem dX0_findChampion_38 : decode cX0_findChampion 38 = .ok (.invokestatic 46, 3) := by decide +kernel
theorem dX0_findChampion_41 : decode cX0_findChampion 41 = .ok (.ifCond .eq 5, 3) := by decide +kernel
theorem dX0_findChampion_44 : decode cX0_findChampion 44 = .ok (.iload_n 2, 1) := by decide +kernel
theorem dX0_findChampion_45 : decode cX0_findChampion 45 = .ok (.istore_n 1, 1) := by decide +kernel
theorem dX0_findChampion_46 : decode cX0_findChampion 46 = .ok (.iinc 2 1, 3) := by decide +kernel
theorem dX0_findChampion_49 : decode cX0_findChampion 49 = .ok (.goto (-45), 3) := by decide +kernel
theorem dX0_findChampion_52 : decode cX0_findChampion 52 = .ok (.aload_n 0, 1) := by decide +kernel
theorem dX0_findChampion_53 : decode cX0_findChampion 53 = .ok (.getfield 11, 3) := by decide +kernel
theorem dX0_findChampion_56 : decode cX0_findChampion 56 = .ok (.iload_n 1, 1) := by decide +kernel
theorem dX0_findChampion_57 : decode cX0_findChampion 57 = .ok (.iaload, 1) := by decide +kernel
theorem dX0_findChampion_58 : decode cX0_findChampion 58 = .ok (.iconst 3, 1) := by decide +kernel
theorem dX0_findChampion_59 : decode cX0_findChampion 59 = .ok (.if_icmp .ge 11, 3) := by decide +kernel
theorem dX0_findChampion_62 : decode cX0_findChampion 62 = .ok (.aload_n 0, 1) := by decide +kernel
theorem dX0_findChampion_63 : decode cX0_findChampion 63 = .ok (.getfield 22, 3) := by decide +kernel
theorem dX0_findChampion_66 : decode cX0_findChampion 66 = .ok (.iconst 5, 1) := by decide +kernel
theorem dX0_findChampion_67 : decode cX0_findChampion 67 = .ok (.if_icmp .lt 7, 3) := by decide +kernel
theorem dX0_findChampion_70 : decode cX0_findChampion 70 = .ok (.iload_n 1, 1) := by decide +kernel
theorem dX0_findChampion_71 : decode cX0_findChampion 71 = .ok (.goto 4, 3) := by decide +kernel
theorem dX0_findChampion_74 : decode cX0_findChampion 74 = .ok (.iconst (-1), 1) := by decide +kernel
theorem dX0_findChampion_75 : decode cX0_findChampion 75 = .ok (.ireturn, 1) := by decide +kernel
theorem dX0_isAhead_0 : decode cX0_isAhead 0 = .ok (.iload_n 1, 1) := by decide +kernel
theorem dX0_isAhead_1 : decode cX0_isAhead 1 = .ok (.iload 4, 2) := by decide +kernel
theorem dX0_isAhead_3 : decode cX0_isAhead 3 = .ok (.if_icmp .eq 15, 3) := by decide +kernel
theorem dX0_isAhead_6 : decode cX0_isAhead 6 = .ok (.iload_n 1, 1) := by decide +kernel
theorem dX0_isAhead_7 : decode cX0_isAhead 7 = .ok (.iload 4, 2) := by decide +kernel
theorem dX0_isAhead_9 : decode cX0_isAhead 9 = .ok (.if_icmp .le 7, 3) := by decide +kernel
theorem dX0_isAhead_12 : decode cX0_isAhead 12 = .ok (.iconst 1, 1) := by decide +kernel
theorem dX0_isAhead_13 : decode cX0_isAhead 13 = .ok (.goto 4, 3) := by decide +kernel
theorem dX0_isAhead_16 : decode cX0_isAhead 16 = .ok (.iconst 0, 1) := by decide +kernel
theorem dX0_isAhead_17 : decode cX0_isAhead 17 = .ok (.ireturn, 1) := by decide +kernel
theorem dX0_isAhead_18 : decode cX0_isAhead 18 = .ok (.iload_n 2, 1) := by decide +kernel
theorem dX0_isAhead_19 : decode cX0_isAhead 19 = .ok (.iload 5, 2) := by decide +kernel
theorem dX0_isAhead_21 : decode cX0_isAhead 21 = .ok (.if_icmp .eq 17, 3) := by decide +kernel
theorem dX0_isAhead_24 : decode cX0_isAhead 24 = .ok (.iload_n 2, 1) := by decide +kernel
theorem dX0_isAhead_25 : decode cX0_isAhead 25 = .ok (.iload 5, 2) := by decide +kernel
theorem dX0_isAhead_27 : decode cX0_isAhead 27 = .ok (.if_icmp .ge 7, 3) := by decide +kernel
theorem dX0_isAhead_30 : decode cX0_isAhead 30 = .ok (.iconst 1, 1) := by decide +kernel
theorem dX0_isAhead_31 : decode cX0_isAhead 31 = .ok (.goto 17, 3) := by decide +kernel
theorem dX0_isAhead_34 : decode cX0_isAhead 34 = .ok (.iconst 0, 1) := by decide +kernel
theorem dX0_isAhead_35 : decode cX0_isAhead 35 = .ok (.goto 13, 3) := by decide +kernel
theorem dX0_isAhead_38 : decode cX0_isAhead 38 = .ok (.iload_n 0, 1) := by decide +kernel
theorem dX0_isAhead_39 : decode cX0_isAhead 39 = .ok (.iload_n 3, 1) := by decide +kernel
theorem dX0_isAhead_40 : decode cX0_isAhead 40 = .ok (.if_icmp .ge 7, 3) := by decide +kernel
theorem dX0_isAhead_43 : decode cX0_isAhead 43 = .ok (.iconst 1, 1) := by decide +kernel
theorem dX0_isAhead_44 : decode cX0_isAhead 44 = .ok (.goto 4, 3) := by decide +kernel
theorem dX0_isAhead_47 : decode cX0_isAhead 47 = .ok (.iconst 0, 1) := by decide +kernel
theorem dX0_isAhead_48 : decode cX0_isAhead 48 = .ok (.ireturn, 1) := by decide +kernel
theorem dX0_champion_0 : decode cX0_champion 0 = .ok (.aload_n 0, 1) := by decide +kernel
theorem dX0_champion_1 : decode cX0_champion 1 = .ok (.getfield 25, 3) := by decide +kernel
theorem dX0_champion_4 : decode cX0_champion 4 = .ok (.ireturn, 1) := by decide +kernel
set_option maxRecDepth 20000 in
theorem ggX0_tell_X0_canWin : GoodIn wsX0_tell wsX0_canWin := goodIn_r _ [8, 9, 10, 2, 1, 3, 11, 12, 7, 13, 14, 15, 16, 17, 18] (by decide +kernel) (by decide +kernel)
set_option maxRecDepth 20000 in
theorem gX0_tell_X0_canWin : GoodIn wsX0_tell (wsV RX0 50 RX0 yX0_canWin wsX0_canWin) := goodIn_app (goodIn_of _ (by decide +kernel)) ggX0_tell_X0_canWin
theorem dX0_tell_0 : decode cX0_tell 0 = .ok (.iload_n 1, 1) := by decide +kernel
theorem dX0_tell_1 : decode cX0_tell 1 = .ok (.ifCond .lt 11, 3) := by decide +kernel
theorem dX0_tell_4 : decode cX0_tell 4 = .ok (.iload_n 1, 1) := by decide +kernel
theorem dX0_tell_5 : decode cX0_tell 5 = .ok (.aload_n 0, 1) := by decide +kernel
theorem dX0_tell_6 : decode cX0_tell 6 = .ok (.getfield 18, 3) := by decide +kernel
theorem dX0_tell_9 : decode cX0_tell 9 = .ok (.if_icmp .lt 5, 3) := by decide +kernel
theorem dX0_tell_12 : decode cX0_tell 12 = .ok (.iconst (-1), 1) := by decide +kernel
theorem dX0_tell_13 : decode cX0_tell 13 = .ok (.ireturn, 1) := by decide +kernel
theorem dX0_tell_14 : decode cX0_tell 14 = .ok (.iload_n 2, 1) := by decide +kernel
theorem dX0_tell_15 : decode cX0_tell 15 = .ok (.tableswitch 53 0 2 #[25, 32, 39], 25) := by decide +kernel
theorem dX0_tell_40 : decode cX0_tell 40 = .ok (.aload_n 0, 1) := by decide +kernel
theorem dX0_tell_41 : decode cX0_tell 41 = .ok (.getfield 11, 3) := by decide +kernel
theorem dX0_tell_44 : decode cX0_tell 44 = .ok (.iload_n 1, 1) := by decide +kernel
theorem dX0_tell_45 : decode cX0_tell 45 = .ok (.iaload, 1) := by decide +kernel
theorem dX0_tell_46 : decode cX0_tell 46 = .ok (.ireturn, 1) := by decide +kernel
theorem dX0_tell_47 : decode cX0_tell 47 = .ok (.aload_n 0, 1) := by decide +kernel
theorem dX0_tell_48 : decode cX0_tell 48 = .ok (.getfield 15, 3) := by decide +kernel
theorem dX0_tell_51 : decode cX0_tell 51 = .ok (.iload_n 1, 1) := by decide +kernel
theorem dX0_tell_52 : decode cX0_tell 52 = .ok (.iaload, 1) := by decide +kernel
theorem dX0_tell_53 : decode cX0_tell 53 = .ok (.ireturn, 1) := by decide +kernel
theorem dX0_tell_54 : decode cX0_tell 54 = .ok (.aload_n 0, 1) := by decide +kernel
theorem dX0_tell_55 : decode cX0_tell 55 = .ok (.iload_n 1, 1) := by decide +kernel
theorem dX0_tell_56 : decode cX0_tell 56 = .ok (.invokevirtual 50, 3) := by decide +kernel
theorem dX0_tell_59 : decode cX0_tell 59 = .ok (.ifCond .eq 7, 3) := by decide +kernel
theorem dX0_tell_62 : decode cX0_tell 62 = .ok (.iconst 1, 1) := by decide +kernel
theorem dX0_tell_63 : decode cX0_tell 63 = .ok (.goto 4, 3) := by decide +kernel
theorem dX0_tell_66 : decode cX0_tell 66 = .ok (.iconst 0, 1) := by decide +kernel
theorem dX0_tell_67 : decode cX0_tell 67 = .ok (.ireturn, 1) := by decide +kernel
theorem dX0_tell_68 : decode cX0_tell 68 = .ok (.iconst (-1), 1) := by decide +kernel
theorem dX0_tell_69 : decode cX0_tell 69 = .ok (.ireturn, 1) := by decide +kernel
set_option maxRecDepth 20000 in
theorem ggX0_canWin_X0_isAhead : GoodIn wsX0_canWin wsX0_isAhead := goodIn_r _ [9] (by decide +kernel) (by decide +kernel)
set_option maxRecDepth 20000 in
theorem gX0_canWin_X0_isAhead : GoodIn wsX0_canWin (va_wsS RX0 46 yX0_isAhead wsX0_isAhead) := goodIn_app (goodIn_of _ (by decide +kernel)) ggX0_canWin_X0_isAhead
theorem dX0_canWin_0 : decode cX0_canWin 0 = .ok (.aload_n 0, 1) := by decide +kernel
theorem dX0_canWin_1 : decode cX0_canWin 1 = .ok (.getfield 25, 3) := by decide +kernel
theorem dX0_canWin_4 : decode cX0_canWin 4 = .ok (.iconst (-1), 1) := by decide +kernel
theorem dX0_canWin_5 : decode cX0_canWin 5 = .ok (.if_icmp .eq 17, 3) := by decide +kernel
theorem dX0_canWin_8 : decode cX0_canWin 8 = .ok (.aload_n 0, 1) := by decide +kernel
theorem dX0_canWin_9 : decode cX0_canWin 9 = .ok (.getfield 25, 3) := by decide +kernel
theorem dX0_canWin_12 : decode cX0_canWin 12 = .ok (.iload_n 1, 1) := by decide +kernel
theorem dX0_canWin_13 : decode cX0_canWin 13 = .ok (.if_icmp .ne 7, 3) := by decide +kernel
theorem dX0_canWin_16 : decode cX0_canWin 16 = .ok (.iconst 1, 1) := by decide +kernel
theorem dX0_canWin_17 : decode cX0_canWin 17 = .ok (.goto 4, 3) := by decide +kernel
theorem dX0_canWin_20 : decode cX0_canWin 20 = .ok (.iconst 0, 1) := by decide +kernel
theorem dX0_canWin_21 : decode cX0_canWin 21 = .ok (.ireturn, 1) := by decide +kernel
theorem dX0_canWin_22 : decode cX0_canWin 22 = .ok (.iconst 5, 1) := by decide +kernel
theorem dX0_canWin_23 : decode cX0_canWin 23 = .ok (.aload_n 0, 1) := by decide +kernel
theorem dX0_canWin_24 : decode cX0_canWin 24 = .ok (.getfield 22, 3) := by decide +kernel
theorem dX0_canWin_27 : decode cX0_canWin 27 = .ok (.isub, 1) := by decide +kernel
theorem dX0_canWin_28 : decode cX0_canWin 28 = .ok (.istore_n 2, 1) := by decide +kernel
theorem dX0_canWin_29 : decode cX0_canWin 29 = .ok (.aload_n 0, 1) := by decide +kernel
theorem dX0_canWin_30 : decode cX0_canWin 30 = .ok (.getfield 11, 3) := by decide +kernel
theorem dX0_canWin_33 : decode cX0_canWin 33 = .ok (.iload_n 1, 1) := by decide +kernel
theorem dX0_canWin_34 : decode cX0_canWin 34 = .ok (.iaload, 1) := by decide +kernel
theorem dX0_canWin_35 : decode cX0_canWin 35 = .ok (.iload_n 2, 1) := by decide +kernel
theorem dX0_canWin_36 : decode cX0_canWin 36 = .ok (.iadd, 1) := by decide +kernel
theorem dX0_canWin_37 : decode cX0_canWin 37 = .ok (.istore_n 3, 1) := by decide +kernel
theorem dX0_canWin_38 : decode cX0_canWin 38 = .ok (.iload_n 3, 1) := by decide +kernel
theorem dX0_canWin_39 : decode cX0_canWin 39 = .ok (.iconst 3, 1) := by decide +kernel
theorem dX0_canWin_40 : decode cX0_canWin 40 = .ok (.if_icmp .lt 5, 3) := by decide +kernel
theorem dX0_canWin_43 : decode cX0_canWin 43 = .ok (.iconst 1, 1) := by decide +kernel
theorem dX0_canWin_44 : decode cX0_canWin 44 = .ok (.ireturn, 1) := by decide +kernel
theorem dX0_canWin_45 : decode cX0_canWin 45 = .ok (.iconst 0, 1) := by decide +kernel
theorem dX0_canWin_46 : decode cX0_canWin 46 = .ok (.istore 4, 2) := by decide +kernel
theorem dX0_canWin_48 : decode cX0_canWin 48 = .ok (.iload 4, 2) := by decide +kernel
theorem dX0_canWin_50 : decode cX0_canWin 50 = .ok (.aload_n 0, 1) := by decide +kernel
theorem dX0_canWin_51 : decode cX0_canWin 51 = .ok (.getfield 18, 3) := by decide +kernel
theorem dX0_canWin_54 : decode cX0_canWin 54 = .ok (.if_icmp .ge 60, 3) := by decide +kernel
theorem dX0_canWin_57 : decode cX0_canWin 57 = .ok (.aload_n 0, 1) := by decide +kernel
theorem dX0_canWin_58 : decode cX0_canWin 58 = .ok (.getfield 15, 3) := by decide +kernel
theorem dX0_canWin_61 : decode cX0_canWin 61 = .ok (.iload 4, 2) := by decide +kernel
theorem dX0_canWin_63 : decode cX0_canWin 63 = .ok (.iaload, 1) := by decide +kernel
theorem dX0_canWin_64 : decode cX0_canWin 64 = .ok (.iload_n 2, 1) := by decide +kernel
theorem dX0_canWin_65 : decode cX0_canWin 65 = .ok (.aload_n 0, 1) := by decide +kernel
theorem dX0_canWin_66 : decode cX0_canWin 66 = .ok (.getfield 18, 3) := by decide +kernel
theorem dX0_canWin_69 : decode cX0_canWin 69 = .ok (.imul, 1) := by decide +kernel
theorem dX0_canWin_70 : decode cX0_canWin 70 = .ok (.iadd, 1) := by decide +kernel
theorem dX0_canWin_71 : decode cX0_canWin 71 = .ok (.istore 5, 2) := by decide +kernel
theorem dX0_canWin_73 : decode cX0_canWin 73 = .ok (.iload 4, 2) := by decide +kernel
theorem dX0_canWin_75 : decode cX0_canWin 75 = .ok (.iload_n 1, 1) := by decide +kernel
theorem dX0_canWin_76 : decode cX0_canWin 76 = .ok (.if_icmp .eq 32, 3) := by decide +kernel
theorem dX0_canWin_79 : decode cX0_canWin 79 = .ok (.iload_n 1, 1) := by decide +kernel
theorem dX0_canWin_80 : decode cX0_canWin 80 = .ok (.iload_n 3, 1) := by decide +kernel
theorem dX0_canWin_81 : decode cX0_canWin 81 = .ok (.aload_n 0, 1) := by decide +kernel
theorem dX0_canWin_82 : decode cX0_canWin 82 = .ok (.getfield 15, 3) := by decide +kernel
theorem dX0_canWin_85 : decode cX0_canWin 85 = .ok (.iload_n 1, 1) := by decide +kernel
theorem dX0_canWin_86 : decode cX0_canWin 86 = .ok (.iaload, 1) := by decide +kernel
theorem dX0_canWin_87 : decode cX0_canWin 87 = .ok (.iload_n 2, 1) := by decide +kernel
theorem dX0_canWin_88 : decode cX0_canWin 88 = .ok (.iadd, 1) := by decide +kernel
theorem dX0_canWin_89 : decode cX0_canWin 89 = .ok (.iload 4, 2) := by decide +kernel
theorem dX0_canWin_91 : decode cX0_canWin 91 = .ok (.aload_n 0, 1) := by decide +kernel
theorem dX0_canWin_92 : decode cX0_canWin 92 = .ok (.getfield 11, 3) := by decide +kernel
theorem dX0_canWin_95 : decode cX0_canWin 95 = .ok (.iload 4, 2) := by decide +kernel
theorem dX0_canWin_97 : decode cX0_canWin 97 = .ok (.iaload, 1) := by decide +kernel
theorem dX0_canWin_98 : decode cX0_canWin 98 = .ok (.iload 5, 2) := by decide +kernel
theorem dX0_canWin_100 : decode cX0_canWin 100 = .ok (.invokestatic 46, 3) := by decide +kernel
theorem dX0_canWin_103 : decode cX0_canWin 103 = .ok (.ifCond .ne 5, 3) := by decide +kernel
theorem dX0_canWin_106 : decode cX0_canWin 106 = .ok (.iconst 0, 1) := by decide +kernel
theorem dX0_canWin_107 : decode cX0_canWin 107 = .ok (.ireturn, 1) := by decide +kernel
theorem dX0_canWin_108 : decode cX0_canWin 108 = .ok (.iinc 4 1, 3) := by decide +kernel
theorem dX0_canWin_111 : decode cX0_canWin 111 = .ok (.goto (-63), 3) := by decide +kernel
theorem dX0_canWin_114 : decode cX0_canWin 114 = .ok (.iconst 1, 1) := by decide +kernel
theorem dX0_canWin_115 : decode cX0_canWin 115 = .ok (.ireturn, 1) := by decide +kernel
theorem dX1_init_0 : decode cX1_init 0 = .ok (.aload_n 0, 1) := by decide +kernel
theorem dX1_init_1 : decode cX1_init 1 = .ok (.invokespecial 5, 3) := by decide +kernel
theorem dX1_init_4 : decode cX1_init 4 = .ok (.aload_n 0, 1) := by decide +kernel
theorem dX1_init_5 : decode cX1_init 5 = .ok (.bipush 24, 2) := by decide +kernel
theorem dX1_init_7 : decode cX1_init 7 = .ok (.newarray .int, 2) := by decide +kernel
theorem dX1_init_9 : decode cX1_init 9 = .ok (.putfield 11, 3) := by decide +kernel
theorem dX1_init_12 : decode cX1_init 12 = .ok (.aload_n 0, 1) := by decide +kernel
theorem dX1_init_13 : decode cX1_init 13 = .ok (.bipush 9, 2) := by decide +kernel
theorem dX1_init_15 : decode cX1_init 15 = .ok (.newarray .int, 2) := by decide +kernel
theorem dX1_init_17 : decode cX1_init 17 = .ok (.putfield 15, 3) := by decide +kernel
theorem dX1_init_20 : decode cX1_init 20 = .ok (.aload_n 0, 1) := by decide +kernel
theorem dX1_init_21 : decode cX1_init 21 = .ok (.bipush 24, 2) := by decide +kernel
theorem dX1_init_23 : decode cX1_init 23 = .ok (.newarray .int, 2) := by decide +kernel
theorem dX1_init_25 : decode cX1_init 25 = .ok (.putfield 18, 3) := by decide +kernel
theorem dX1_init_28 : decode cX1_init 28 = .ok (.aload_n 0, 1) := by decide +kernel
theorem dX1_init_29 : decode cX1_init 29 = .ok (.bipush 12, 2) := by decide +kernel
theorem dX1_init_31 : decode cX1_init 31 = .ok (.newarray .int, 2) := by decide +kernel
theorem dX1_init_33 : decode cX1_init 33 = .ok (.putfield 21, 3) := by decide +kernel
theorem dX1_init_36 : decode cX1_init 36 = .ok (.aload_n 0, 1) := by decide +kernel
theorem dX1_init_37 : decode cX1_init 37 = .ok (.bipush 9, 2) := by decide +kernel
theorem dX1_init_39 : decode cX1_init 39 = .ok (.bipush 12, 2) := by decide +kernel
theorem dX1_init_41 : decode cX1_init 41 = .ok (.multianewarray 24 2, 4) := by decide +kernel
theorem dX1_init_45 : decode cX1_init 45 = .ok (.putfield 26, 3) := by decide +kernel
theorem dX1_init_48 : decode cX1_init 48 = .ok (.aload_n 0, 1) := by decide +kernel
theorem dX1_init_49 : decode cX1_init 49 = .ok (.iconst 0, 1) := by decide +kernel
theorem dX1_init_50 : decode cX1_init 50 = .ok (.putfield 29, 3) := by decide +kernel
theorem dX1_init_53 : decode cX1_init 53 = .ok (.aload_n 0, 1) := by decide +kernel
theorem dX1_init_54 : decode cX1_init 54 = .ok (.iconst 0, 1) := by decide +kernel
theorem dX1_init_55 : decode cX1_init 55 = .ok (.putfield 33, 3) := by decide +kernel
theorem dX1_init_58 : decode cX1_init 58 = .ok (.aload_n 0, 1) := by decide +kernel
theorem dX1_init_59 : decode cX1_init 59 = .ok (.iconst 0, 1) := by decide +kernel
theorem dX1_init_60 : decode cX1_init 60 = .ok (.putfield 36, 3) := by decide +kernel
theorem dX1_init_63 : decode cX1_init 63 = .ok (.aload_n 0, 1) := by decide +kernel
theorem dX1_init_64 : decode cX1_init 64 = .ok (.iconst 0, 1) := by decide +kernel
theorem dX1_init_65 : decode cX1_init 65 = .ok (.putfield 40, 3) := by decide +kernel
theorem dX1_init_68 : decode cX1_init 68 = .ok (.aload_n 0, 1) := by decide +kernel
theorem dX1_init_69 : decode cX1_init 69 = .ok (.iconst 2, 1) := by decide +kernel
theorem dX1_init_70 : decode cX1_init 70 = .ok (.putfield 43, 3) := by decide +kernel
theorem dX1_init_73 : decode cX1_init 73 = .ok (.aload_n 0, 1) := by decide +kernel
theorem dX1_init_74 : decode cX1_init 74 = .ok (.iconst 0, 1) := by decide +kernel
theorem dX1_init_75 : decode cX1_init 75 = .ok (.putfield 46, 3) := by decide +kernel
theorem dX1_init_78 : decode cX1_init 78 = .ok (.aload_n 0, 1) := by decide +kernel
theorem dX1_init_79 : decode cX1_init 79 = .ok (.iconst 0, 1) := by decide +kernel
theorem dX1_init_80 : decode cX1_init 80 = .ok (.putfield 49, 3) := by decide +kernel
theorem dX1_init_83 : decode cX1_init 83 = .ok (.aload_n 0, 1) := by decide +kernel
theorem dX1_init_84 : decode cX1_init 84 = .ok (.iconst (-1), 1) := by decide +kernel
theorem dX1_init_85 : decode cX1_init 85 = .ok (.putfield 52, 3) := by decide +kernel
theorem dX1_init_88 : decode cX1_init 88 = .ok (.aload_n 0, 1) := by decide +kernel
theorem dX1_init_89 : decode cX1_init 89 = .ok (.iconst 0, 1) := by decide +kernel
theorem dX1_init_90 : decode cX1_init 90 = .ok (.putfield 55, 3) := by decide +kernel
theorem dX1_init_93 : decode cX1_init 93 = .ok (.aload_n 0, 1) := by decide +kernel
theorem dX1_init_94 : decode cX1_init 94 = .ok (.iconst (-1), 1) := by decide +kernel
theorem dX1_init_95 : decode cX1_init 95 = .ok (.putfield 58, 3) := by decide +kernel
theorem dX1_init_98 : decode cX1_init 98 = .ok (.aload_n 0, 1) := by decide +kernel
theorem dX1_init_99 : decode cX1_init 99 = .ok (.iconst 0, 1) := by decide +kernel
theorem dX1_init_100 : decode cX1_init 100 = .ok (.putfield 61, 3) := by decide +kernel
theorem dX1_init_103 : decode cX1_init 103 = .ok (.return_, 1) := by decide +kernel
set_option maxRecDepth 20000 in
theorem ggX1_addRunner_X4_isTown : GoodIn wsX1_addRunner wsX4_isTown := goodIn_r _ [5] (by decide +kernel) (by decide +kernel)
set_option maxRecDepth 20000 in
theorem gX1_addRunner_X4_isTown_n64 : GoodIn wsX1_addRunner (wsX4_isTown) := ggX1_addRunner_X4_isTown
theorem dX1_addRunner_0 : decode cX1_addRunner 0 = .ok (.iload_n 1, 1) := by decide +kernel
theorem dX1_addRunner_1 : decode cX1_addRunner 1 = .ok (.invokestatic 64, 3) := by decide +kernel
theorem dX1_addRunner_4 : decode cX1_addRunner 4 = .ok (.ifCond .eq 12, 3) := by decide +kernel
theorem dX1_addRunner_7 : decode cX1_addRunner 7 = .ok (.aload_n 0, 1) := by decide +kernel
theorem dX1_addRunner_8 : decode cX1_addRunner 8 = .ok (.getfield 29, 3) := by decide +kernel
theorem dX1_addRunner_11 : decode cX1_addRunner 11 = .ok (.bipush 24, 2) := by decide +kernel
theorem dX1_addRunner_13 : decode cX1_addRunner 13 = .ok (.if_icmp .lt 5, 3) := by decide +kernel
theorem dX1_addRunner_16 : decode cX1_addRunner 16 = .ok (.iconst (-1), 1) := by decide +kernel
theorem dX1_addRunner_17 : decode cX1_addRunner 17 = .ok (.ireturn, 1) := by decide +kernel
theorem dX1_addRunner_18 : decode cX1_addRunner 18 = .ok (.aload_n 0, 1) := by decide +kernel
theorem dX1_addRunner_19 : decode cX1_addRunner 19 = .ok (.getfield 11, 3) := by decide +kernel
theorem dX1_addRunner_22 : decode cX1_addRunner 22 = .ok (.aload_n 0, 1) := by decide +kernel
theorem dX1_addRunner_23 : decode cX1_addRunner 23 = .ok (.getfield 29, 3) := by decide +kernel
theorem dX1_addRunner_26 : decode cX1_addRunner 26 = .ok (.iload_n 1, 1) := by decide +kernel
theorem dX1_addRunner_27 : decode cX1_addRunner 27 = .ok (.iastore, 1) := by decide +kernel
theorem dX1_addRunner_28 : decode cX1_addRunner 28 = .ok (.aload_n 0, 1) := by decide +kernel
theorem dX1_addRunner_29 : decode cX1_addRunner 29 = .ok (.dup, 1) := by decide +kernel
theorem dX1_addRunner_30 : decode cX1_addRunner 30 = .ok (.getfield 29, 3) := by decide +kernel
theorem dX1_addRunner_33 : decode cX1_addRunner 33 = .ok (.dup_x1, 1) := by decide +kernel
theorem dX1_addRunner_34 : decode cX1_addRunner 34 = .ok (.iconst 1, 1) := by decide +kernel
theorem dX1_addRunner_35 : decode cX1_addRunner 35 = .ok (.iadd, 1) := by decide +kernel
theorem dX1_addRunner_36 : decode cX1_addRunner 36 = .ok (.putfield 29, 3) := by decide +kernel
theorem dX1_addRunner_39 : decode cX1_addRunner 39 = .ok (.ireturn, 1) := by decide +kernel
set_option maxRecDepth 20000 in
theorem ggX1_addJudge_X4_isTown : GoodIn wsX1_addJudge wsX4_isTown := goodIn_r _ [5] (by decide +kernel) (by decide +kernel)
set_option maxRecDepth 20000 in
theorem gX1_addJudge_X4_isTown_n64 : GoodIn wsX1_addJudge (wsX4_isTown) := ggX1_addJudge_X4_isTown
theorem dX1_addJudge_0 : decode cX1_addJudge 0 = .ok (.iload_n 1, 1) := by decide +kernel
theorem dX1_addJudge_1 : decode cX1_addJudge 1 = .ok (.invokestatic 64, 3) := by decide +kernel
theorem dX1_addJudge_4 : decode cX1_addJudge 4 = .ok (.ifCond .eq 12, 3) := by decide +kernel
theorem dX1_addJudge_7 : decode cX1_addJudge 7 = .ok (.aload_n 0, 1) := by decide +kernel
theorem dX1_addJudge_8 : decode cX1_addJudge 8 = .ok (.getfield 33, 3) := by decide +kernel
theorem dX1_addJudge_11 : decode cX1_addJudge 11 = .ok (.bipush 9, 2) := by decide +kernel
theorem dX1_addJudge_13 : decode cX1_addJudge 13 = .ok (.if_icmp .lt 5, 3) := by decide +kernel
theorem dX1_addJudge_16 : decode cX1_addJudge 16 = .ok (.iconst (-1), 1) := by decide +kernel
theorem dX1_addJudge_17 : decode cX1_addJudge 17 = .ok (.ireturn, 1) := by decide +kernel
theorem dX1_addJudge_18 : decode cX1_addJudge 18 = .ok (.aload_n 0, 1) := by decide +kernel
theorem dX1_addJudge_19 : decode cX1_addJudge 19 = .ok (.getfield 15, 3) := by decide +kernel
theorem dX1_addJudge_22 : decode cX1_addJudge 22 = .ok (.aload_n 0, 1) := by decide +kernel
theorem dX1_addJudge_23 : decode cX1_addJudge 23 = .ok (.getfield 33, 3) := by decide +kernel
theorem dX1_addJudge_26 : decode cX1_addJudge 26 = .ok (.iload_n 1, 1) := by decide +kernel
theorem dX1_addJudge_27 : decode cX1_addJudge 27 = .ok (.iastore, 1) := by decide +kernel
theorem dX1_addJudge_28 : decode cX1_addJudge 28 = .ok (.aload_n 0, 1) := by decide +kernel
theorem dX1_addJudge_29 : decode cX1_addJudge 29 = .ok (.dup, 1) := by decide +kernel
theorem dX1_addJudge_30 : decode cX1_addJudge 30 = .ok (.getfield 33, 3) := by decide +kernel
theorem dX1_addJudge_33 : decode cX1_addJudge 33 = .ok (.dup_x1, 1) := by decide +kernel
theorem dX1_addJudge_34 : decode cX1_addJudge 34 = .ok (.iconst 1, 1) := by decide +kernel
theorem dX1_addJudge_35 : decode cX1_addJudge 35 = .ok (.iadd, 1) := by decide +kernel
theorem dX1_addJudge_36 : decode cX1_addJudge 36 = .ok (.putfield 33, 3) := by decide +kernel
theorem dX1_addJudge_39 : decode cX1_addJudge 39 = .ok (.ireturn, 1) := by decide +kernel
set_option maxRecDepth 20000 in
theorem ggX1_begin_X1_enter : GoodIn wsX1_begin wsX1_enter := goodIn_r _ [12, 13, 1, 14, 15, 16, 17, 47, 48, 49, 50, 51, 52, 53, 54, 55, 56, 57, 58, 59, 60, 61, 62] (by decide +kernel) (by decide +kernel)
set_option maxRecDepth 20000 in
theorem gX1_begin_X1_enter : GoodIn wsX1_begin (wsV RX1 68 RX1 yX1_enter wsX1_enter) := goodIn_app (goodIn_of _ (by decide +kernel)) ggX1_begin_X1_enter
set_option maxRecDepth 20000 in
theorem ggX1_begin_X1_beginRound : GoodIn wsX1_begin wsX1_beginRound := goodIn_r _ [21, 4, 2, 13, 22, 23, 24, 25, 26, 27, 28, 11, 29, 3, 30, 31, 32, 33, 34, 14, 35, 36, 37, 38, 5, 15, 16, 17, 39, 40, 41, 42, 43, 44, 45, 46, 47, 48, 49, 50, 51, 52, 53, 54, 55, 56, 57, 58, 59, 60, 61, 62] (by decide +kernel) (by decide +kernel)
set_option maxRecDepth 20000 in
theorem gX1_begin_X1_beginRound : GoodIn wsX1_begin (wsV RX1 72 RX1 yX1_beginRound wsX1_beginRound) := goodIn_app (goodIn_of _ (by decide +kernel)) ggX1_begin_X1_beginRound
theorem dX1_begin_0 : decode cX1_begin 0 = .ok (.iload_n 1, 1) := by decide +kernel
theorem dX1_begin_1 : decode cX1_begin 1 = .ok (.iconst 1, 1) := by decide +kernel
theorem dX1_begin_2 : decode cX1_begin 2 = .ok (.if_icmp .ne 7, 3) := by decide +kernel
theorem dX1_begin_5 : decode cX1_begin 5 = .ok (.iconst 2, 1) := by decide +kernel
theorem dX1_begin_6 : decode cX1_begin 6 = .ok (.goto 4, 3) := by decide +kernel
theorem dX1_begin_9 : decode cX1_begin 9 = .ok (.iload_n 2, 1) := by decide +kernel
theorem dX1_begin_10 : decode cX1_begin 10 = .ok (.istore 4, 2) := by decide +kernel
theorem dX1_begin_12 : decode cX1_begin 12 = .ok (.iload_n 1, 1) := by decide +kernel
theorem dX1_begin_13 : decode cX1_begin 13 = .ok (.ifCond .lt 28, 3) := by decide +kernel
theorem dX1_begin_16 : decode cX1_begin 16 = .ok (.iload_n 1, 1) := by decide +kernel
theorem dX1_begin_17 : decode cX1_begin 17 = .ok (.iconst 1, 1) := by decide +kernel
theorem dX1_begin_18 : decode cX1_begin 18 = .ok (.if_icmp .gt 23, 3) := by decide +kernel
theorem dX1_begin_21 : decode cX1_begin 21 = .ok (.iload 4, 2) := by decide +kernel
theorem dX1_begin_23 : decode cX1_begin 23 = .ok (.iconst 2, 1) := by decide +kernel
theorem dX1_begin_24 : decode cX1_begin 24 = .ok (.if_icmp .lt 17, 3) := by decide +kernel
theorem dX1_begin_27 : decode cX1_begin 27 = .ok (.iload 4, 2) := by decide +kernel
theorem dX1_begin_29 : decode cX1_begin 29 = .ok (.bipush 6, 2) := by decide +kernel
theorem dX1_begin_31 : decode cX1_begin 31 = .ok (.if_icmp .gt 10, 3) := by decide +kernel
theorem dX1_begin_34 : decode cX1_begin 34 = .ok (.aload_n 0, 1) := by decide +kernel
theorem dX1_begin_35 : decode cX1_begin 35 = .ok (.getfield 29, 3) := by decide +kernel
theorem dX1_begin_38 : decode cX1_begin 38 = .ok (.ifCond .ne 5, 3) := by decide +kernel
theorem dX1_begin_41 : decode cX1_begin 41 = .ok (.iconst (-1), 1) := by decide +kernel
theorem dX1_begin_42 : decode cX1_begin 42 = .ok (.ireturn, 1) := by decide +kernel
theorem dX1_begin_43 : decode cX1_begin 43 = .ok (.aload_n 0, 1) := by decide +kernel
theorem dX1_begin_44 : decode cX1_begin 44 = .ok (.iload 4, 2) := by decide +kernel
theorem dX1_begin_46 : decode cX1_begin 46 = .ok (.putfield 43, 3) := by decide +kernel
theorem dX1_begin_49 : decode cX1_begin 49 = .ok (.aload_n 0, 1) := by decide +kernel
theorem dX1_begin_50 : decode cX1_begin 50 = .ok (.iload_n 3, 1) := by decide +kernel
theorem dX1_begin_51 : decode cX1_begin 51 = .ok (.putfield 61, 3) := by decide +kernel
theorem dX1_begin_54 : decode cX1_begin 54 = .ok (.aload_n 0, 1) := by decide +kernel
theorem dX1_begin_55 : decode cX1_begin 55 = .ok (.iconst 0, 1) := by decide +kernel
theorem dX1_begin_56 : decode cX1_begin 56 = .ok (.putfield 40, 3) := by decide +kernel
theorem dX1_begin_59 : decode cX1_begin 59 = .ok (.aload_n 0, 1) := by decide +kernel
theorem dX1_begin_60 : decode cX1_begin 60 = .ok (.iconst 0, 1) := by decide +kernel
theorem dX1_begin_61 : decode cX1_begin 61 = .ok (.putfield 55, 3) := by decide +kernel
theorem dX1_begin_64 : decode cX1_begin 64 = .ok (.aload_n 0, 1) := by decide +kernel
theorem dX1_begin_65 : decode cX1_begin 65 = .ok (.iconst (-1), 1) := by decide +kernel
theorem dX1_begin_66 : decode cX1_begin 66 = .ok (.putfield 58, 3) := by decide +kernel
theorem dX1_begin_69 : decode cX1_begin 69 = .ok (.aload_n 0, 1) := by decide +kernel
theorem dX1_begin_70 : decode cX1_begin 70 = .ok (.iconst 1, 1) := by decide +kernel
theorem dX1_begin_71 : decode cX1_begin 71 = .ok (.putfield 36, 3) := by decide +kernel
theorem dX1_begin_74 : decode cX1_begin 74 = .ok (.aload_n 0, 1) := by decide +kernel
theorem dX1_begin_75 : decode cX1_begin 75 = .ok (.iconst (-1), 1) := by decide +kernel
theorem dX1_begin_76 : decode cX1_begin 76 = .ok (.invokevirtual 68, 3) := by decide +kernel
theorem dX1_begin_79 : decode cX1_begin 79 = .ok (.aload_n 0, 1) := by decide +kernel
theorem dX1_begin_80 : decode cX1_begin 80 = .ok (.invokevirtual 72, 3) := by decide +kernel
theorem dX1_begin_83 : decode cX1_begin 83 = .ok (.ireturn, 1) := by decide +kernel
set_option maxRecDepth 20000 in
theorem ggX1_enter_X4_hasBit : GoodIn wsX1_enter wsX4_hasBit := goodIn_r _ [6] (by decide +kernel) (by decide +kernel)
set_option maxRecDepth 20000 in
theorem gX1_enter_X4_hasBit_n76 : GoodIn wsX1_enter (wsX4_hasBit) := ggX1_enter_X4_hasBit
theorem dX1_enter_0 : decode cX1_enter 0 = .ok (.aload_n 0, 1) := by decide +kernel
theorem dX1_enter_1 : decode cX1_enter 1 = .ok (.iconst 0, 1) := by decide +kernel
theorem dX1_enter_2 : decode cX1_enter 2 = .ok (.putfield 46, 3) := by decide +kernel
theorem dX1_enter_5 : decode cX1_enter 5 = .ok (.iconst 0, 1) := by decide +kernel
theorem dX1_enter_6 : decode cX1_enter 6 = .ok (.istore_n 2, 1) := by decide +kernel
theorem dX1_enter_7 : decode cX1_enter 7 = .ok (.iload_n 2, 1) := by decide +kernel
theorem dX1_enter_8 : decode cX1_enter 8 = .ok (.aload_n 0, 1) := by decide +kernel
theorem dX1_enter_9 : decode cX1_enter 9 = .ok (.getfield 29, 3) := by decide +kernel
theorem dX1_enter_12 : decode cX1_enter 12 = .ok (.if_icmp .ge 37, 3) := by decide +kernel
theorem dX1_enter_15 : decode cX1_enter 15 = .ok (.iload_n 1, 1) := by decide +kernel
theorem dX1_enter_16 : decode cX1_enter 16 = .ok (.iload_n 2, 1) := by decide +kernel
theorem dX1_enter_17 : decode cX1_enter 17 = .ok (.invokestatic 76, 3) := by decide +kernel
theorem dX1_enter_20 : decode cX1_enter 20 = .ok (.ifCond .eq 23, 3) := by decide +kernel
theorem dX1_enter_23 : decode cX1_enter 23 = .ok (.aload_n 0, 1) := by decide +kernel
theorem dX1_enter_24 : decode cX1_enter 24 = .ok (.getfield 18, 3) := by decide +kernel
theorem dX1_enter_27 : decode cX1_enter 27 = .ok (.aload_n 0, 1) := by decide +kernel
theorem dX1_enter_28 : decode cX1_enter 28 = .ok (.getfield 46, 3) := by decide +kernel
theorem dX1_enter_31 : decode cX1_enter 31 = .ok (.iload_n 2, 1) := by decide +kernel
theorem dX1_enter_32 : decode cX1_enter 32 = .ok (.iastore, 1) := by decide +kernel
theorem dX1_enter_33 : decode cX1_enter 33 = .ok (.aload_n 0, 1) := by decide +kernel
theorem dX1_enter_34 : decode cX1_enter 34 = .ok (.dup, 1) := by decide +kernel
theorem dX1_enter_35 : decode cX1_enter 35 = .ok (.getfield 46, 3) := by decide +kernel
theorem dX1_enter_38 : decode cX1_enter 38 = .ok (.iconst 1, 1) := by decide +kernel
theorem dX1_enter_39 : decode cX1_enter 39 = .ok (.iadd, 1) := by decide +kernel
theorem dX1_enter_40 : decode cX1_enter 40 = .ok (.putfield 46, 3) := by decide +kernel
theorem dX1_enter_43 : decode cX1_enter 43 = .ok (.iinc 2 1, 3) := by decide +kernel
theorem dX1_enter_46 : decode cX1_enter 46 = .ok (.goto (-39), 3) := by decide +kernel
theorem dX1_enter_49 : decode cX1_enter 49 = .ok (.return_, 1) := by decide +kernel
set_option maxRecDepth 20000 in
theorem ggX1_beginRound_X1_mixRow : GoodIn wsX1_beginRound wsX1_mixRow := goodIn_r _ [12, 3, 13, 14, 15, 16, 17, 11, 18, 19, 36, 37, 38, 39, 40, 41, 42, 43, 44, 45, 46, 47, 48, 49, 50, 51] (by decide +kernel) (by decide +kernel)
set_option maxRecDepth 20000 in
theorem gX1_beginRound_X1_mixRow : GoodIn wsX1_beginRound (wsV RX1 80 RX1 yX1_mixRow wsX1_mixRow) := goodIn_app (goodIn_of _ (by decide +kernel)) ggX1_beginRound_X1_mixRow
set_option maxRecDepth 20000 in
theorem ggX1_beginRound_X1_giveBye : GoodIn wsX1_beginRound wsX1_giveBye := goodIn_r _ [23, 24, 19, 5, 25, 26, 27, 28, 29, 30, 11, 31, 15, 16, 17, 18, 36, 37, 38, 39, 40, 41, 42, 43, 44, 45, 46, 47, 48, 49, 50, 51] (by decide +kernel) (by decide +kernel)
set_option maxRecDepth 20000 in
theorem gX1_beginRound_X1_giveBye : GoodIn wsX1_beginRound (wsV RX1 83 RX1 yX1_giveBye wsX1_giveBye) := goodIn_app (goodIn_of _ (by decide +kernel)) ggX1_beginRound_X1_giveBye
set_option maxRecDepth 20000 in
theorem ggX1_beginRound_J7_fill_53178 : GoodIn wsX1_beginRound wsJ7_fill_53178 := goodIn_r _ [35] (by decide +kernel) (by decide +kernel)
set_option maxRecDepth 20000 in
theorem gX1_beginRound_J7_fill_53178 : GoodIn wsX1_beginRound (va_wsS RX1 86 yJ7_fill_53178 wsJ7_fill_53178) := goodIn_app (goodIn_of _ (by decide +kernel)) ggX1_beginRound_J7_fill_53178
theorem dX1_beginRound_0 : decode cX1_beginRound 0 = .ok (.aload_n 0, 1) := by decide +kernel
theorem dX1_beginRound_1 : decode cX1_beginRound 1 = .ok (.dup, 1) := by decide +kernel
theorem dX1_beginRound_2 : decode cX1_beginRound 2 = .ok (.getfield 40, 3) := by decide +kernel
theorem dX1_beginRound_5 : decode cX1_beginRound 5 = .ok (.iconst 1, 1) := by decide +kernel
theorem dX1_beginRound_6 : decode cX1_beginRound 6 = .ok (.iadd, 1) := by decide +kernel
theorem dX1_beginRound_7 : decode cX1_beginRound 7 = .ok (.putfield 40, 3) := by decide +kernel
theorem dX1_beginRound_10 : decode cX1_beginRound 10 = .ok (.aload_n 0, 1) := by decide +kernel
theorem dX1_beginRound_11 : decode cX1_beginRound 11 = .ok (.invokevirtual 80, 3) := by decide +kernel
theorem dX1_beginRound_14 : decode cX1_beginRound 14 = .ok (.aload_n 0, 1) := by decide +kernel
theorem dX1_beginRound_15 : decode cX1_beginRound 15 = .ok (.aload_n 0, 1) := by decide +kernel
theorem dX1_beginRound_16 : decode cX1_beginRound 16 = .ok (.getfield 43, 3) := by decide +kernel
theorem dX1_beginRound_19 : decode cX1_beginRound 19 = .ok (.ifCond .le 15, 3) := by decide +kernel
theorem dX1_beginRound_22 : decode cX1_beginRound 22 = .ok (.aload_n 0, 1) := by decide +kernel
theorem dX1_beginRound_23 : decode cX1_beginRound 23 = .ok (.getfield 46, 3) := by decide +kernel
theorem dX1_beginRound_26 : decode cX1_beginRound 26 = .ok (.aload_n 0, 1) := by decide +kernel
theorem dX1_beginRound_27 : decode cX1_beginRound 27 = .ok (.getfield 43, 3) := by decide +kernel
theorem dX1_beginRound_30 : decode cX1_beginRound 30 = .ok (.idiv, 1) := by decide +kernel
theorem dX1_beginRound_31 : decode cX1_beginRound 31 = .ok (.goto 4, 3) := by decide +kernel
theorem dX1_beginRound_34 : decode cX1_beginRound 34 = .ok (.iconst 0, 1) := by decide +kernel
theorem dX1_beginRound_35 : decode cX1_beginRound 35 = .ok (.putfield 49, 3) := by decide +kernel
theorem dX1_beginRound_38 : decode cX1_beginRound 38 = .ok (.aload_n 0, 1) := by decide +kernel
theorem dX1_beginRound_39 : decode cX1_beginRound 39 = .ok (.getfield 46, 3) := by decide +kernel
theorem dX1_beginRound_42 : decode cX1_beginRound 42 = .ok (.aload_n 0, 1) := by decide +kernel
theorem dX1_beginRound_43 : decode cX1_beginRound 43 = .ok (.getfield 49, 3) := by decide +kernel
theorem dX1_beginRound_46 : decode cX1_beginRound 46 = .ok (.aload_n 0, 1) := by decide +kernel
theorem dX1_beginRound_47 : decode cX1_beginRound 47 = .ok (.getfield 43, 3) := by decide +kernel
theorem dX1_beginRound_50 : decode cX1_beginRound 50 = .ok (.imul, 1) := by decide +kernel
theorem dX1_beginRound_51 : decode cX1_beginRound 51 = .ok (.isub, 1) := by decide +kernel
theorem dX1_beginRound_52 : decode cX1_beginRound 52 = .ok (.istore_n 1, 1) := by decide +kernel
theorem dX1_beginRound_53 : decode cX1_beginRound 53 = .ok (.aload_n 0, 1) := by decide +kernel
theorem dX1_beginRound_54 : decode cX1_beginRound 54 = .ok (.iconst (-1), 1) := by decide +kernel
theorem dX1_beginRound_55 : decode cX1_beginRound 55 = .ok (.putfield 52, 3) := by decide +kernel
theorem dX1_beginRound_58 : decode cX1_beginRound 58 = .ok (.iload_n 1, 1) := by decide +kernel
theorem dX1_beginRound_59 : decode cX1_beginRound 59 = .ok (.iconst 1, 1) := by decide +kernel
theorem dX1_beginRound_60 : decode cX1_beginRound 60 = .ok (.if_icmp .ne 16, 3) := by decide +kernel
theorem dX1_beginRound_63 : decode cX1_beginRound 63 = .ok (.aload_n 0, 1) := by decide +kernel
theorem dX1_beginRound_64 : decode cX1_beginRound 64 = .ok (.aload_n 0, 1) := by decide +kernel
theorem dX1_beginRound_65 : decode cX1_beginRound 65 = .ok (.getfield 46, 3) := by decide +kernel
theorem dX1_beginRound_68 : decode cX1_beginRound 68 = .ok (.iconst 1, 1) := by decide +kernel
theorem dX1_beginRound_69 : decode cX1_beginRound 69 = .ok (.isub, 1) := by decide +kernel
theorem dX1_beginRound_70 : decode cX1_beginRound 70 = .ok (.invokevirtual 83, 3) := by decide +kernel
theorem dX1_beginRound_73 : decode cX1_beginRound 73 = .ok (.goto 18, 3) := by decide +kernel
theorem dX1_beginRound_76 : decode cX1_beginRound 76 = .ok (.iload_n 1, 1) := by decide +kernel
theorem dX1_beginRound_77 : decode cX1_beginRound 77 = .ok (.iconst 1, 1) := by decide +kernel
theorem dX1_beginRound_78 : decode cX1_beginRound 78 = .ok (.if_icmp .le 13, 3) := by decide +kernel
theorem dX1_beginRound_81 : decode cX1_beginRound 81 = .ok (.aload_n 0, 1) := by decide +kernel
theorem dX1_beginRound_82 : decode cX1_beginRound 82 = .ok (.dup, 1) := by decide +kernel
theorem dX1_beginRound_83 : decode cX1_beginRound 83 = .ok (.getfield 49, 3) := by decide +kernel
theorem dX1_beginRound_86 : decode cX1_beginRound 86 = .ok (.iconst 1, 1) := by decide +kernel
theorem dX1_beginRound_87 : decode cX1_beginRound 87 = .ok (.iadd, 1) := by decide +kernel
theorem dX1_beginRound_88 : decode cX1_beginRound 88 = .ok (.putfield 49, 3) := by decide +kernel
theorem dX1_beginRound_91 : decode cX1_beginRound 91 = .ok (.aload_n 0, 1) := by decide +kernel
theorem dX1_beginRound_92 : decode cX1_beginRound 92 = .ok (.getfield 21, 3) := by decide +kernel
theorem dX1_beginRound_95 : decode cX1_beginRound 95 = .ok (.iconst (-1), 1) := by decide +kernel
theorem dX1_beginRound_96 : decode cX1_beginRound 96 = .ok (.invokestatic 86, 3) := by decide +kernel
theorem dX1_beginRound_99 : decode cX1_beginRound 99 = .ok (.iconst 0, 1) := by decide +kernel
theorem dX1_beginRound_100 : decode cX1_beginRound 100 = .ok (.istore_n 2, 1) := by decide +kernel
theorem dX1_beginRound_101 : decode cX1_beginRound 101 = .ok (.iload_n 2, 1) := by decide +kernel
theorem dX1_beginRound_102 : decode cX1_beginRound 102 = .ok (.bipush 9, 2) := by decide +kernel
theorem dX1_beginRound_104 : decode cX1_beginRound 104 = .ok (.if_icmp .ge 19, 3) := by decide +kernel
theorem dX1_beginRound_107 : decode cX1_beginRound 107 = .ok (.aload_n 0, 1) := by decide +kernel
theorem dX1_beginRound_108 : decode cX1_beginRound 108 = .ok (.getfield 26, 3) := by decide +kernel
theorem dX1_beginRound_111 : decode cX1_beginRound 111 = .ok (.iload_n 2, 1) := by decide +kernel
theorem dX1_beginRound_112 : decode cX1_beginRound 112 = .ok (.aaload, 1) := by decide +kernel
theorem dX1_beginRound_113 : decode cX1_beginRound 113 = .ok (.iconst (-1), 1) := by decide +kernel
theorem dX1_beginRound_114 : decode cX1_beginRound 114 = .ok (.invokestatic 86, 3) := by decide +kernel
theorem dX1_beginRound_117 : decode cX1_beginRound 117 = .ok (.iinc 2 1, 3) := by decide +kernel
theorem dX1_beginRound_120 : decode cX1_beginRound 120 = .ok (.goto (-19), 3) := by decide +kernel
theorem dX1_beginRound_123 : decode cX1_beginRound 123 = .ok (.aload_n 0, 1) := by decide +kernel
theorem dX1_beginRound_124 : decode cX1_beginRound 124 = .ok (.getfield 49, 3) := by decide +kernel
theorem dX1_beginRound_127 : decode cX1_beginRound 127 = .ok (.ireturn, 1) := by decide +kernel
set_option maxRecDepth 20000 in
theorem ggX1_mixRow_X1_exchange : GoodIn wsX1_mixRow wsX1_exchange := goodIn_r _ [8, 9, 10, 11, 12, 13, 14, 15, 16, 17, 18, 19, 20, 21, 22, 23, 24, 25] (by decide +kernel) (by decide +kernel)
set_option maxRecDepth 20000 in
theorem gX1_mixRow_X1_exchange : GoodIn wsX1_mixRow (wsV RX1 93 RX1 yX1_exchange wsX1_exchange) := goodIn_app (goodIn_of _ (by decide +kernel)) ggX1_mixRow_X1_exchange
theorem dX1_mixRow_0 : decode cX1_mixRow 0 = .ok (.aload_n 0, 1) := by decide +kernel
theorem dX1_mixRow_1 : decode cX1_mixRow 1 = .ok (.getfield 46, 3) := by decide +kernel
theorem dX1_mixRow_4 : decode cX1_mixRow 4 = .ok (.iconst 1, 1) := by decide +kernel
theorem dX1_mixRow_5 : decode cX1_mixRow 5 = .ok (.isub, 1) := by decide +kernel
theorem dX1_mixRow_6 : decode cX1_mixRow 6 = .ok (.istore_n 1, 1) := by decide +kernel
theorem dX1_mixRow_7 : decode cX1_mixRow 7 = .ok (.iload_n 1, 1) := by decide +kernel
theorem dX1_mixRow_8 : decode cX1_mixRow 8 = .ok (.iconst 1, 1) := by decide +kernel
theorem dX1_mixRow_9 : decode cX1_mixRow 9 = .ok (.if_icmp .lt 40, 3) := by decide +kernel
theorem dX1_mixRow_12 : decode cX1_mixRow 12 = .ok (.aload_n 0, 1) := by decide +kernel
theorem dX1_mixRow_13 : decode cX1_mixRow 13 = .ok (.aload_n 0, 1) := by decide +kernel
theorem dX1_mixRow_14 : decode cX1_mixRow 14 = .ok (.getfield 61, 3) := by decide +kernel
theorem dX1_mixRow_17 : decode cX1_mixRow 17 = .ok (.ldc 92, 2) := by decide +kernel
theorem dX1_mixRow_19 : decode cX1_mixRow 19 = .ok (.imul, 1) := by decide +kernel
theorem dX1_mixRow_20 : decode cX1_mixRow 20 = .ok (.sipush 12345, 3) := by decide +kernel
theorem dX1_mixRow_23 : decode cX1_mixRow 23 = .ok (.iadd, 1) := by decide +kernel
theorem dX1_mixRow_24 : decode cX1_mixRow 24 = .ok (.putfield 61, 3) := by decide +kernel
theorem dX1_mixRow_27 : decode cX1_mixRow 27 = .ok (.aload_n 0, 1) := by decide +kernel
theorem dX1_mixRow_28 : decode cX1_mixRow 28 = .ok (.iload_n 1, 1) := by decide +kernel
theorem dX1_mixRow_29 : decode cX1_mixRow 29 = .ok (.aload_n 0, 1) := by decide +kernel
theorem dX1_mixRow_30 : decode cX1_mixRow 30 = .ok (.getfield 61, 3) := by decide +kernel
theorem dX1_mixRow_33 : decode cX1_mixRow 33 = .ok (.bipush 16, 2) := by decide +kernel
theorem dX1_mixRow_35 : decode cX1_mixRow 35 = .ok (.iushr, 1) := by decide +kernel
theorem dX1_mixRow_36 : decode cX1_mixRow 36 = .ok (.iload_n 1, 1) := by decide +kernel
theorem dX1_mixRow_37 : decode cX1_mixRow 37 = .ok (.iconst 1, 1) := by decide +kernel
theorem dX1_mixRow_38 : decode cX1_mixRow 38 = .ok (.iadd, 1) := by decide +kernel
theorem dX1_mixRow_39 : decode cX1_mixRow 39 = .ok (.irem, 1) := by decide +kernel
theorem dX1_mixRow_40 : decode cX1_mixRow 40 = .ok (.invokevirtual 93, 3) := by decide +kernel
theorem dX1_mixRow_43 : decode cX1_mixRow 43 = .ok (.iinc 1 (-1), 3) := by decide +kernel
theorem dX1_mixRow_46 : decode cX1_mixRow 46 = .ok (.goto (-39), 3) := by decide +kernel
theorem dX1_mixRow_49 : decode cX1_mixRow 49 = .ok (.return_, 1) := by decide +kernel
theorem dX1_exchange_0 : decode cX1_exchange 0 = .ok (.aload_n 0, 1) := by decide +kernel
theorem dX1_exchange_1 : decode cX1_exchange 1 = .ok (.getfield 18, 3) := by decide +kernel
theorem dX1_exchange_4 : decode cX1_exchange 4 = .ok (.iload_n 1, 1) := by decide +kernel
theorem dX1_exchange_5 : decode cX1_exchange 5 = .ok (.iaload, 1) := by decide +kernel
theorem dX1_exchange_6 : decode cX1_exchange 6 = .ok (.istore_n 3, 1) := by decide +kernel
theorem dX1_exchange_7 : decode cX1_exchange 7 = .ok (.aload_n 0, 1) := by decide +kernel
theorem dX1_exchange_8 : decode cX1_exchange 8 = .ok (.getfield 18, 3) := by decide +kernel
theorem dX1_exchange_11 : decode cX1_exchange 11 = .ok (.iload_n 1, 1) := by decide +kernel
theorem dX1_exchange_12 : decode cX1_exchange 12 = .ok (.aload_n 0, 1) := by decide +kernel
theorem dX1_exchange_13 : decode cX1_exchange 13 = .ok (.getfield 18, 3) := by decide +kernel
theorem dX1_exchange_16 : decode cX1_exchange 16 = .ok (.iload_n 2, 1) := by decide +kernel
theorem dX1_exchange_17 : decode cX1_exchange 17 = .ok (.iaload, 1) := by decide +kernel
theorem dX1_exchange_18 : decode cX1_exchange 18 = .ok (.iastore, 1) := by decide +kernel
theorem dX1_exchange_19 : decode cX1_exchange 19 = .ok (.aload_n 0, 1) := by decide +kernel
theorem dX1_exchange_20 : decode cX1_exchange 20 = .ok (.getfield 18, 3) := by decide +kernel
theorem dX1_exchange_23 : decode cX1_exchange 23 = .ok (.iload_n 2, 1) := by decide +kernel
theorem dX1_exchange_24 : decode cX1_exchange 24 = .ok (.iload_n 3, 1) := by decide +kernel
theorem dX1_exchange_25 : decode cX1_exchange 25 = .ok (.iastore, 1) := by decide +kernel
theorem dX1_exchange_26 : decode cX1_exchange 26 = .ok (.return_, 1) := by decide +kernel
set_option maxRecDepth 20000 in
theorem ggX1_giveBye_X4_hasBit : GoodIn wsX1_giveBye wsX4_hasBit := goodIn_r _ [6] (by decide +kernel) (by decide +kernel)
set_option maxRecDepth 20000 in
theorem gX1_giveBye_X4_hasBit_n76 : GoodIn wsX1_giveBye (wsX4_hasBit) := ggX1_giveBye_X4_hasBit
set_option maxRecDepth 20000 in
theorem ggX1_giveBye_X1_lastWithoutBye : GoodIn wsX1_giveBye wsX1_lastWithoutBye := goodIn_r _ [11, 1, 2, 4, 5, 6, 16, 17, 18, 19, 20, 21, 22, 23, 24, 25, 26, 27, 28, 29, 30, 31] (by decide +kernel) (by decide +kernel)
set_option maxRecDepth 20000 in
theorem gX1_giveBye_X1_lastWithoutBye : GoodIn wsX1_giveBye (wsV RX1 97 RX1 yX1_lastWithoutBye wsX1_lastWithoutBye) := goodIn_app (goodIn_of _ (by decide +kernel)) ggX1_giveBye_X1_lastWithoutBye
set_option maxRecDepth 20000 in
theorem ggX1_giveBye_X1_exchange : GoodIn wsX1_giveBye wsX1_exchange := goodIn_r _ [15, 2, 16, 17, 18, 19, 20, 21, 22, 23, 24, 25, 26, 27, 28, 29, 30, 31] (by decide +kernel) (by decide +kernel)
set_option maxRecDepth 20000 in
theorem gX1_giveBye_X1_exchange : GoodIn wsX1_giveBye (wsV RX1 93 RX1 yX1_exchange wsX1_exchange) := goodIn_app (goodIn_of _ (by decide +kernel)) ggX1_giveBye_X1_exchange
theorem dX1_giveBye_0 : decode cX1_giveBye 0 = .ok (.aload_n 0, 1) := by decide +kernel
theorem dX1_giveBye_1 : decode cX1_giveBye 1 = .ok (.getfield 55, 3) := by decide +kernel
theorem dX1_giveBye_4 : decode cX1_giveBye 4 = .ok (.aload_n 0, 1) := by decide +kernel
theorem dX1_giveBye_5 : decode cX1_giveBye 5 = .ok (.getfield 18, 3) := by decide +kernel
theorem dX1_giveBye_8 : decode cX1_giveBye 8 = .ok (.iload_n 1, 1) := by decide +kernel
theorem dX1_giveBye_9 : decode cX1_giveBye 9 = .ok (.iaload, 1) := by decide +kernel
theorem dX1_giveBye_10 : decode cX1_giveBye 10 = .ok (.invokestatic 76, 3) := by decide +kernel
theorem dX1_giveBye_13 : decode cX1_giveBye 13 = .ok (.ifCond .eq 13, 3) := by decide +kernel
theorem dX1_giveBye_16 : decode cX1_giveBye 16 = .ok (.aload_n 0, 1) := by decide +kernel
theorem dX1_giveBye_17 : decode cX1_giveBye 17 = .ok (.iload_n 1, 1) := by decide +kernel
theorem dX1_giveBye_18 : decode cX1_giveBye 18 = .ok (.aload_n 0, 1) := by decide +kernel
theorem dX1_giveBye_19 : decode cX1_giveBye 19 = .ok (.iload_n 1, 1) := by decide +kernel
theorem dX1_giveBye_20 : decode cX1_giveBye 20 = .ok (.invokevirtual 97, 3) := by decide +kernel
theorem dX1_giveBye_23 : decode cX1_giveBye 23 = .ok (.invokevirtual 93, 3) := by decide +kernel
theorem dX1_giveBye_26 : decode cX1_giveBye 26 = .ok (.aload_n 0, 1) := by decide +kernel
theorem dX1_giveBye_27 : decode cX1_giveBye 27 = .ok (.aload_n 0, 1) := by decide +kernel
theorem dX1_giveBye_28 : decode cX1_giveBye 28 = .ok (.getfield 18, 3) := by decide +kernel
theorem dX1_giveBye_31 : decode cX1_giveBye 31 = .ok (.iload_n 1, 1) := by decide +kernel
theorem dX1_giveBye_32 : decode cX1_giveBye 32 = .ok (.iaload, 1) := by decide +kernel
theorem dX1_giveBye_33 : decode cX1_giveBye 33 = .ok (.putfield 52, 3) := by decide +kernel
theorem dX1_giveBye_36 : decode cX1_giveBye 36 = .ok (.aload_n 0, 1) := by decide +kernel
theorem dX1_giveBye_37 : decode cX1_giveBye 37 = .ok (.dup, 1) := by decide +kernel
theorem dX1_giveBye_38 : decode cX1_giveBye 38 = .ok (.getfield 55, 3) := by decide +kernel
theorem dX1_giveBye_41 : decode cX1_giveBye 41 = .ok (.iconst 1, 1) := by decide +kernel
theorem dX1_giveBye_42 : decode cX1_giveBye 42 = .ok (.aload_n 0, 1) := by decide +kernel
theorem dX1_giveBye_43 : decode cX1_giveBye 43 = .ok (.getfield 52, 3) := by decide +kernel
theorem dX1_giveBye_46 : decode cX1_giveBye 46 = .ok (.ishl, 1) := by decide +kernel
theorem dX1_giveBye_47 : decode cX1_giveBye 47 = .ok (.ior, 1) := by decide +kernel
theorem dX1_giveBye_48 : decode cX1_giveBye 48 = .ok (.putfield 55, 3) := by decide +kernel
theorem dX1_giveBye_51 : decode cX1_giveBye 51 = .ok (.return_, 1) := by decide +kernel
set_option maxRecDepth 20000 in
theorem ggX1_lastWithoutBye_X4_hasBit : GoodIn wsX1_lastWithoutBye wsX4_hasBit := goodIn_r _ [5] (by decide +kernel) (by decide +kernel)
set_option maxRecDepth 20000 in
theorem gX1_lastWithoutBye_X4_hasBit_n76 : GoodIn wsX1_lastWithoutBye (wsX4_hasBit) := ggX1_lastWithoutBye_X4_hasBit
theorem dX1_lastWithoutBye_0 : decode cX1_lastWithoutBye 0 = .ok (.iload_n 1, 1) := by decide +kernel
theorem dX1_lastWithoutBye_1 : decode cX1_lastWithoutBye 1 = .ok (.iconst 1, 1) := by decide +kernel
theorem dX1_lastWithoutBye_2 : decode cX1_lastWithoutBye 2 = .ok (.isub, 1) := by decide +kernel
theorem dX1_lastWithoutBye_3 : decode cX1_lastWithoutBye 3 = .ok (.istore_n 2, 1) := by decide +kernel
theorem dX1_lastWithoutBye_4 : decode cX1_lastWithoutBye 4 = .ok (.iload_n 2, 1) := by decide +kernel
theorem dX1_lastWithoutBye_5 : decode cX1_lastWithoutBye 5 = .ok (.ifCond .lt 27, 3) := by decide +kernel
theorem dX1_lastWithoutBye_8 : decode cX1_lastWithoutBye 8 = .ok (.aload_n 0, 1) := by decide +kernel
theorem dX1_lastWithoutBye_9 : decode cX1_lastWithoutBye 9 = .ok (.getfield 55, 3) := by decide +kernel
theorem dX1_lastWithoutBye_12 : decode cX1_lastWithoutBye 12 = .ok (.aload_n 0, 1) := by decide +kernel
theorem dX1_lastWithoutBye_13 : decode cX1_lastWithoutBye 13 = .ok (.getfield 18, 3) := by decide +kernel
theorem dX1_lastWithoutBye_16 : decode cX1_lastWithoutBye 16 = .ok (.iload_n 2, 1) := by decide +kernel
theorem dX1_lastWithoutBye_17 : decode cX1_lastWithoutBye 17 = .ok (.iaload, 1) := by decide +kernel
theorem dX1_lastWithoutBye_18 : decode cX1_lastWithoutBye 18 = .ok (.invokestatic 76, 3) := by decide +kernel
theorem dX1_lastWithoutBye_21 : decode cX1_lastWithoutBye 21 = .ok (.ifCond .ne 5, 3) := by decide +kernel
theorem dX1_lastWithoutBye_24 : decode cX1_lastWithoutBye 24 = .ok (.iload_n 2, 1) := by decide +kernel
theorem dX1_lastWithoutBye_25 : decode cX1_lastWithoutBye 25 = .ok (.ireturn, 1) := by decide +kernel
theorem dX1_lastWithoutBye_26 : decode cX1_lastWithoutBye 26 = .ok (.iinc 2 (-1), 3) := by decide +kernel
theorem dX1_lastWithoutBye_29 : decode cX1_lastWithoutBye 29 = .ok (.goto (-25), 3) := by decide +kernel
theorem dX1_lastWithoutBye_32 : decode cX1_lastWithoutBye 32 = .ok (.iload_n 1, 1) := by decide +kernel
theorem dX1_lastWithoutBye_33 : decode cX1_lastWithoutBye 33 = .ok (.ireturn, 1) := by decide +kernel
theorem dX1_isHeat_0 : decode cX1_isHeat 0 = .ok (.iload_n 1, 1) := by decide +kernel
theorem dX1_isHeat_1 : decode cX1_isHeat 1 = .ok (.ifCond .lt 15, 3) := by decide +kernel
theorem dX1_isHeat_4 : decode cX1_isHeat 4 = .ok (.iload_n 1, 1) := by decide +kernel
theorem dX1_isHeat_5 : decode cX1_isHeat 5 = .ok (.aload_n 0, 1) := by decide +kernel
theorem dX1_isHeat_6 : decode cX1_isHeat 6 = .ok (.getfield 49, 3) := by decide +kernel
theorem dX1_isHeat_9 : decode cX1_isHeat 9 = .ok (.if_icmp .ge 7, 3) := by decide +kernel
theorem dX1_isHeat_12 : decode cX1_isHeat 12 = .ok (.iconst 1, 1) := by decide +kernel
theorem dX1_isHeat_13 : decode cX1_isHeat 13 = .ok (.goto 4, 3) := by decide +kernel
theorem dX1_isHeat_16 : decode cX1_isHeat 16 = .ok (.iconst 0, 1) := by decide +kernel
theorem dX1_isHeat_17 : decode cX1_isHeat 17 = .ok (.ireturn, 1) := by decide +kernel
theorem dX1_sizeOf_0 : decode cX1_sizeOf 0 = .ok (.aload_n 0, 1) := by decide +kernel
theorem dX1_sizeOf_1 : decode cX1_sizeOf 1 = .ok (.getfield 43, 3) := by decide +kernel
theorem dX1_sizeOf_4 : decode cX1_sizeOf 4 = .ok (.aload_n 0, 1) := by decide +kernel
theorem dX1_sizeOf_5 : decode cX1_sizeOf 5 = .ok (.getfield 46, 3) := by decide +kernel
theorem dX1_sizeOf_8 : decode cX1_sizeOf 8 = .ok (.iload_n 1, 1) := by decide +kernel
theorem dX1_sizeOf_9 : decode cX1_sizeOf 9 = .ok (.aload_n 0, 1) := by decide +kernel
theorem dX1_sizeOf_10 : decode cX1_sizeOf 10 = .ok (.getfield 43, 3) := by decide +kernel
theorem dX1_sizeOf_13 : decode cX1_sizeOf 13 = .ok (.imul, 1) := by decide +kernel
theorem dX1_sizeOf_14 : decode cX1_sizeOf 14 = .ok (.isub, 1) := by decide +kernel
theorem dX1_sizeOf_15 : decode cX1_sizeOf 15 = .ok (.invokestatic 101, 3) := by decide +kernel
theorem dX1_sizeOf_18 : decode cX1_sizeOf 18 = .ok (.ireturn, 1) := by decide +kernel
set_option maxRecDepth 20000 in
theorem ggX1_runnerAt_X1_isHeat : GoodIn wsX1_runnerAt wsX1_isHeat := goodIn_r _ [7, 8, 18, 19, 20, 21, 22, 23, 24, 25, 26, 27, 28, 29, 30, 31, 32, 33] (by decide +kernel) (by decide +kernel)
set_option maxRecDepth 20000 in
theorem gX1_runnerAt_X1_isHeat : GoodIn wsX1_runnerAt (wsV RX1 107 RX1 yX1_isHeat wsX1_isHeat) := goodIn_app (goodIn_of _ (by decide +kernel)) ggX1_runnerAt_X1_isHeat
set_option maxRecDepth 20000 in
theorem ggX1_runnerAt_X1_sizeOf : GoodIn wsX1_runnerAt wsX1_sizeOf := goodIn_r _ [12, 2, 13, 14, 15, 16, 17, 18, 19, 20, 21, 22, 23, 24, 25, 26, 27, 28, 29, 30, 31, 32, 33] (by decide +kernel) (by decide +kernel)
set_option maxRecDepth 20000 in
theorem gX1_runnerAt_X1_sizeOf : GoodIn wsX1_runnerAt (wsV RX1 110 RX1 yX1_sizeOf wsX1_sizeOf) := goodIn_app (goodIn_of _ (by decide +kernel)) ggX1_runnerAt_X1_sizeOf
theorem dX1_runnerAt_0 : decode cX1_runnerAt 0 = .ok (.aload_n 0, 1) := by decide +kernel
theorem dX1_runnerAt_1 : decode cX1_runnerAt 1 = .ok (.iload_n 1, 1) := by decide +kernel
theorem dX1_runnerAt_2 : decode cX1_runnerAt 2 = .ok (.invokevirtual 107, 3) := by decide +kernel
theorem dX1_runnerAt_5 : decode cX1_runnerAt 5 = .ok (.ifCond .eq 32, 3) := by decide +kernel
theorem dX1_runnerAt_8 : decode cX1_runnerAt 8 = .ok (.iload_n 2, 1) := by decide +kernel
theorem dX1_runnerAt_9 : decode cX1_runnerAt 9 = .ok (.ifCond .lt 28, 3) := by decide +kernel
theorem dX1_runnerAt_12 : decode cX1_runnerAt 12 = .ok (.iload_n 2, 1) := by decide +kernel
theorem dX1_runnerAt_13 : decode cX1_runnerAt 13 = .ok (.aload_n 0, 1) := by decide +kernel
theorem dX1_runnerAt_14 : decode cX1_runnerAt 14 = .ok (.iload_n 1, 1) := by decide +kernel
theorem dX1_runnerAt_15 : decode cX1_runnerAt 15 = .ok (.invokevirtual 110, 3) := by decide +kernel
theorem dX1_runnerAt_18 : decode cX1_runnerAt 18 = .ok (.if_icmp .ge 19, 3) := by decide +kernel
theorem dX1_runnerAt_21 : decode cX1_runnerAt 21 = .ok (.aload_n 0, 1) := by decide +kernel
theorem dX1_runnerAt_22 : decode cX1_runnerAt 22 = .ok (.getfield 18, 3) := by decide +kernel
theorem dX1_runnerAt_25 : decode cX1_runnerAt 25 = .ok (.iload_n 1, 1) := by decide +kernel
theorem dX1_runnerAt_26 : decode cX1_runnerAt 26 = .ok (.aload_n 0, 1) := by decide +kernel
theorem dX1_runnerAt_27 : decode cX1_runnerAt 27 = .ok (.getfield 43, 3) := by decide +kernel
theorem dX1_runnerAt_30 : decode cX1_runnerAt 30 = .ok (.imul, 1) := by decide +kernel
theorem dX1_runnerAt_31 : decode cX1_runnerAt 31 = .ok (.iload_n 2, 1) := by decide +kernel
theorem dX1_runnerAt_32 : decode cX1_runnerAt 32 = .ok (.iadd, 1) := by decide +kernel
theorem dX1_runnerAt_33 : decode cX1_runnerAt 33 = .ok (.iaload, 1) := by decide +kernel
theorem dX1_runnerAt_34 : decode cX1_runnerAt 34 = .ok (.goto 4, 3) := by decide +kernel
theorem dX1_runnerAt_37 : decode cX1_runnerAt 37 = .ok (.iconst (-1), 1) := by decide +kernel
theorem dX1_runnerAt_38 : decode cX1_runnerAt 38 = .ok (.ireturn, 1) := by decide +kernel
set_option maxRecDepth 20000 in
theorem ggX1_isIn_X1_runnerAt : GoodIn wsX1_isIn wsX1_runnerAt := goodIn_r _ [6, 7, 1, 8, 9, 10, 5, 11, 12, 13, 14, 15, 16, 17, 18, 19, 20, 21, 22, 23, 24, 25, 26, 27, 28, 29, 30, 31, 32, 33, 34, 35, 36, 37] (by decide +kernel) (by decide +kernel)
set_option maxRecDepth 20000 in
theorem gX1_isIn_X1_runnerAt : GoodIn wsX1_isIn (wsV RX1 113 RX1 yX1_runnerAt wsX1_runnerAt) := goodIn_app (goodIn_of _ (by decide +kernel)) ggX1_isIn_X1_runnerAt
theorem dX1_isIn_0 : decode cX1_isIn 0 = .ok (.iconst 0, 1) := by decide +kernel
theorem dX1_isIn_1 : decode cX1_isIn 1 = .ok (.istore_n 3, 1) := by decide +kernel
theorem dX1_isIn_2 : decode cX1_isIn 2 = .ok (.iload_n 3, 1) := by decide +kernel
theorem dX1_isIn_3 : decode cX1_isIn 3 = .ok (.aload_n 0, 1) := by decide +kernel
theorem dX1_isIn_4 : decode cX1_isIn 4 = .ok (.getfield 43, 3) := by decide +kernel
theorem dX1_isIn_7 : decode cX1_isIn 7 = .ok (.if_icmp .ge 25, 3) := by decide +kernel
theorem dX1_isIn_10 : decode cX1_isIn 10 = .ok (.iload_n 2, 1) := by decide +kernel
theorem dX1_isIn_11 : decode cX1_isIn 11 = .ok (.ifCond .lt 15, 3) := by decide +kernel
theorem dX1_isIn_14 : decode cX1_isIn 14 = .ok (.aload_n 0, 1) := by decide +kernel
theorem dX1_isIn_15 : decode cX1_isIn 15 = .ok (.iload_n 1, 1) := by decide +kernel
theorem dX1_isIn_16 : decode cX1_isIn 16 = .ok (.iload_n 3, 1) := by decide +kernel
theorem dX1_isIn_17 : decode cX1_isIn 17 = .ok (.invokevirtual 113, 3) := by decide +kernel
theorem dX1_isIn_20 : decode cX1_isIn 20 = .ok (.iload_n 2, 1) := by decide +kernel
theorem dX1_isIn_21 : decode cX1_isIn 21 = .ok (.if_icmp .ne 5, 3) := by decide +kernel
theorem dX1_isIn_24 : decode cX1_isIn 24 = .ok (.iconst 1, 1) := by decide +kernel
theorem dX1_isIn_25 : decode cX1_isIn 25 = .ok (.ireturn, 1) := by decide +kernel
theorem dX1_isIn_26 : decode cX1_isIn 26 = .ok (.iinc 3 1, 3) := by decide +kernel
theorem dX1_isIn_29 : decode cX1_isIn 29 = .ok (.goto (-27), 3) := by decide +kernel
theorem dX1_isIn_32 : decode cX1_isIn 32 = .ok (.iconst 0, 1) := by decide +kernel
theorem dX1_isIn_33 : decode cX1_isIn 33 = .ok (.ireturn, 1) := by decide +kernel
set_option maxRecDepth 20000 in
theorem ggX1_heatOf_X1_isIn : GoodIn wsX1_heatOf wsX1_isIn := goodIn_r _ [7, 8, 9, 10, 11, 6, 12, 13, 14, 15, 16, 17, 2, 18, 19, 20, 21, 22, 23, 24, 25, 26, 27, 28, 29, 30, 31, 32, 33, 34, 35, 36, 37, 38, 39, 40, 41, 42] (by decide +kernel) (by decide +kernel)
set_option maxRecDepth 20000 in
theorem gX1_heatOf_X1_isIn : GoodIn wsX1_heatOf (wsV RX1 116 RX1 yX1_isIn wsX1_isIn) := goodIn_app (goodIn_of _ (by decide +kernel)) ggX1_heatOf_X1_isIn
theorem dX1_heatOf_0 : decode cX1_heatOf 0 = .ok (.iconst 0, 1) := by decide +kernel
theorem dX1_heatOf_1 : decode cX1_heatOf 1 = .ok (.istore_n 2, 1) := by decide +kernel
theorem dX1_heatOf_2 : decode cX1_heatOf 2 = .ok (.aload_n 0, 1) := by decide +kernel
theorem dX1_heatOf_3 : decode cX1_heatOf 3 = .ok (.getfield 36, 3) := by decide +kernel
theorem dX1_heatOf_6 : decode cX1_heatOf 6 = .ok (.ifCond .eq 28, 3) := by decide +kernel
theorem dX1_heatOf_9 : decode cX1_heatOf 9 = .ok (.iload_n 2, 1) := by decide +kernel
theorem dX1_heatOf_10 : decode cX1_heatOf 10 = .ok (.aload_n 0, 1) := by decide +kernel
theorem dX1_heatOf_11 : decode cX1_heatOf 11 = .ok (.getfield 49, 3) := by decide +kernel
theorem dX1_heatOf_14 : decode cX1_heatOf 14 = .ok (.if_icmp .ge 20, 3) := by decide +kernel
theorem dX1_heatOf_17 : decode cX1_heatOf 17 = .ok (.aload_n 0, 1) := by decide +kernel
theorem dX1_heatOf_18 : decode cX1_heatOf 18 = .ok (.iload_n 2, 1) := by decide +kernel
theorem dX1_heatOf_19 : decode cX1_heatOf 19 = .ok (.iload_n 1, 1) := by decide +kernel
theorem dX1_heatOf_20 : decode cX1_heatOf 20 = .ok (.invokevirtual 116, 3) := by decide +kernel
theorem dX1_heatOf_23 : decode cX1_heatOf 23 = .ok (.ifCond .eq 5, 3) := by decide +kernel
theorem dX1_heatOf_26 : decode cX1_heatOf 26 = .ok (.iload_n 2, 1) := by decide +kernel
theorem dX1_heatOf_27 : decode cX1_heatOf 27 = .ok (.ireturn, 1) := by decide +kernel
theorem dX1_heatOf_28 : decode cX1_heatOf 28 = .ok (.iinc 2 1, 3) := by decide +kernel
theorem dX1_heatOf_31 : decode cX1_heatOf 31 = .ok (.goto (-29), 3) := by decide +kernel
theorem dX1_heatOf_34 : decode cX1_heatOf 34 = .ok (.iconst (-1), 1) := by decide +kernel
theorem dX1_heatOf_35 : decode cX1_heatOf 35 = .ok (.ireturn, 1) := by decide +kernel
theorem dX1_openHeats_0 : decode cX1_openHeats 0 = .ok (.iconst 0, 1) := by decide +kernel
theorem dX1_openHeats_1 : decode cX1_openHeats 1 = .ok (.istore_n 1, 1) := by decide +kernel
theorem dX1_openHeats_2 : decode cX1_openHeats 2 = .ok (.iconst 0, 1) := by decide +kernel
theorem dX1_openHeats_3 : decode cX1_openHeats 3 = .ok (.istore_n 2, 1) := by decide +kernel
theorem dX1_openHeats_4 : decode cX1_openHeats 4 = .ok (.iload_n 2, 1) := by decide +kernel
theorem dX1_openHeats_5 : decode cX1_openHeats 5 = .ok (.aload_n 0, 1) := by decide +kernel
theorem dX1_openHeats_6 : decode cX1_openHeats 6 = .ok (.getfield 49, 3) := by decide +kernel
theorem dX1_openHeats_9 : decode cX1_openHeats 9 = .ok (.if_icmp .ge 22, 3) := by decide +kernel
theorem dX1_openHeats_12 : decode cX1_openHeats 12 = .ok (.aload_n 0, 1) := by decide +kernel
theorem dX1_openHeats_13 : decode cX1_openHeats 13 = .ok (.getfield 21, 3) := by decide +kernel
theorem dX1_openHeats_16 : decode cX1_openHeats 16 = .ok (.iload_n 2, 1) := by decide +kernel
theorem dX1_openHeats_17 : decode cX1_openHeats 17 = .ok (.iaload, 1) := by decide +kernel
theorem dX1_openHeats_18 : decode cX1_openHeats 18 = .ok (.iconst (-1), 1) := by decide +kernel
theorem dX1_openHeats_19 : decode cX1_openHeats 19 = .ok (.if_icmp .ne 6, 3) := by decide +kernel
theorem dX1_openHeats_22 : decode cX1_openHeats 22 = .ok (.iinc 1 1, 3) := by decide +kernel
theorem dX1_openHeats_25 : decode cX1_openHeats 25 = .ok (.iinc 2 1, 3) := by decide +kernel
theorem dX1_openHeats_28 : decode cX1_openHeats 28 = .ok (.goto (-24), 3) := by decide +kernel
theorem dX1_openHeats_31 : decode cX1_openHeats 31 = .ok (.iload_n 1, 1) := by decide +kernel
theorem dX1_openHeats_32 : decode cX1_openHeats 32 = .ok (.ireturn, 1) := by decide +kernel
set_option maxRecDepth 20000 in
theorem ggX1_tell_X1_openHeats : GoodIn wsX1_tell wsX1_openHeats := goodIn_r _ [12, 4, 13, 14, 15, 16, 17, 18, 19, 20, 21, 22, 23, 24, 25, 26, 27, 28, 29] (by decide +kernel) (by decide +kernel)
set_option maxRecDepth 20000 in
theorem gX1_tell_X1_openHeats : GoodIn wsX1_tell (wsV RX1 119 RX1 yX1_openHeats wsX1_openHeats) := goodIn_app (goodIn_of _ (by decide +kernel)) ggX1_tell_X1_openHeats
theorem dX1_tell_0 : decode cX1_tell 0 = .ok (.iload_n 1, 1) := by decide +kernel
theorem dX1_tell_1 : decode cX1_tell 1 = .ok (.tableswitch 87 0 7 #[47, 52, 57, 62, 67, 72, 77, 82], 47) := by decide +kernel
theorem dX1_tell_48 : decode cX1_tell 48 = .ok (.aload_n 0, 1) := by decide +kernel
theorem dX1_tell_49 : decode cX1_tell 49 = .ok (.getfield 29, 3) := by decide +kernel
theorem dX1_tell_52 : decode cX1_tell 52 = .ok (.ireturn, 1) := by decide +kernel
theorem dX1_tell_53 : decode cX1_tell 53 = .ok (.aload_n 0, 1) := by decide +kernel
theorem dX1_tell_54 : decode cX1_tell 54 = .ok (.getfield 33, 3) := by decide +kernel
theorem dX1_tell_57 : decode cX1_tell 57 = .ok (.ireturn, 1) := by decide +kernel
theorem dX1_tell_58 : decode cX1_tell 58 = .ok (.aload_n 0, 1) := by decide +kernel
theorem dX1_tell_59 : decode cX1_tell 59 = .ok (.getfield 40, 3) := by decide +kernel
theorem dX1_tell_62 : decode cX1_tell 62 = .ok (.ireturn, 1) := by decide +kernel
theorem dX1_tell_63 : decode cX1_tell 63 = .ok (.aload_n 0, 1) := by decide +kernel
theorem dX1_tell_64 : decode cX1_tell 64 = .ok (.getfield 49, 3) := by decide +kernel
theorem dX1_tell_67 : decode cX1_tell 67 = .ok (.ireturn, 1) := by decide +kernel
theorem dX1_tell_68 : decode cX1_tell 68 = .ok (.aload_n 0, 1) := by decide +kernel
theorem dX1_tell_69 : decode cX1_tell 69 = .ok (.getfield 52, 3) := by decide +kernel
theorem dX1_tell_72 : decode cX1_tell 72 = .ok (.ireturn, 1) := by decide +kernel
theorem dX1_tell_73 : decode cX1_tell 73 = .ok (.aload_n 0, 1) := by decide +kernel
theorem dX1_tell_74 : decode cX1_tell 74 = .ok (.getfield 58, 3) := by decide +kernel
theorem dX1_tell_77 : decode cX1_tell 77 = .ok (.ireturn, 1) := by decide +kernel
theorem dX1_tell_78 : decode cX1_tell 78 = .ok (.aload_n 0, 1) := by decide +kernel
theorem dX1_tell_79 : decode cX1_tell 79 = .ok (.getfield 61, 3) := by decide +kernel
theorem dX1_tell_82 : decode cX1_tell 82 = .ok (.ireturn, 1) := by decide +kernel
theorem dX1_tell_83 : decode cX1_tell 83 = .ok (.aload_n 0, 1) := by decide +kernel
theorem dX1_tell_84 : decode cX1_tell 84 = .ok (.invokevirtual 119, 3) := by decide +kernel
theorem dX1_tell_87 : decode cX1_tell 87 = .ok (.ireturn, 1) := by decide +kernel
theorem dX1_tell_88 : decode cX1_tell 88 = .ok (.iconst (-1), 1) := by decide +kernel
theorem dX1_tell_89 : decode cX1_tell 89 = .ok (.ireturn, 1) := by decide +kernel
set_option maxRecDepth 20000 in
theorem ggX1_setWinner_X1_isHeat : GoodIn wsX1_setWinner wsX1_isHeat := goodIn_r _ [7, 8, 28, 29, 30, 31, 32, 33, 34, 35, 36, 37, 38, 39, 40, 41, 42, 43] (by decide +kernel) (by decide +kernel)
set_option maxRecDepth 20000 in
theorem gX1_setWinner_X1_isHeat : GoodIn wsX1_setWinner (wsV RX1 107 RX1 yX1_isHeat wsX1_isHeat) := goodIn_app (goodIn_of _ (by decide +kernel)) ggX1_setWinner_X1_isHeat
set_option maxRecDepth 20000 in
theorem ggX1_setWinner_X1_isIn : GoodIn wsX1_setWinner wsX1_isIn := goodIn_r _ [12, 13, 14, 15, 16, 6, 17, 18, 3, 4, 5, 7, 8, 19, 20, 21, 22, 23, 24, 25, 26, 27, 28, 29, 30, 31, 32, 33, 34, 35, 36, 37, 38, 39, 40, 41, 42, 43] (by decide +kernel) (by decide +kernel)
set_option maxRecDepth 20000 in
theorem gX1_setWinner_X1_isIn : GoodIn wsX1_setWinner (wsV RX1 116 RX1 yX1_isIn wsX1_isIn) := goodIn_app (goodIn_of _ (by decide +kernel)) ggX1_setWinner_X1_isIn
theorem dX1_setWinner_0 : decode cX1_setWinner 0 = .ok (.aload_n 0, 1) := by decide +kernel
theorem dX1_setWinner_1 : decode cX1_setWinner 1 = .ok (.getfield 36, 3) := by decide +kernel
theorem dX1_setWinner_4 : decode cX1_setWinner 4 = .ok (.ifCond .eq 20, 3) := by decide +kernel
theorem dX1_setWinner_7 : decode cX1_setWinner 7 = .ok (.aload_n 0, 1) := by decide +kernel
theorem dX1_setWinner_8 : decode cX1_setWinner 8 = .ok (.iload_n 1, 1) := by decide +kernel
theorem dX1_setWinner_9 : decode cX1_setWinner 9 = .ok (.invokevirtual 107, 3) := by decide +kernel
theorem dX1_setWinner_12 : decode cX1_setWinner 12 = .ok (.ifCond .eq 12, 3) := by decide +kernel
theorem dX1_setWinner_15 : decode cX1_setWinner 15 = .ok (.aload_n 0, 1) := by decide +kernel
theorem dX1_setWinner_16 : decode cX1_setWinner 16 = .ok (.iload_n 1, 1) := by decide +kernel
theorem dX1_setWinner_17 : decode cX1_setWinner 17 = .ok (.iload_n 2, 1) := by decide +kernel
theorem dX1_setWinner_18 : decode cX1_setWinner 18 = .ok (.invokevirtual 116, 3) := by decide +kernel
theorem dX1_setWinner_21 : decode cX1_setWinner 21 = .ok (.ifCond .ne 5, 3) := by decide +kernel
theorem dX1_setWinner_24 : decode cX1_setWinner 24 = .ok (.iconst 0, 1) := by decide +kernel
theorem dX1_setWinner_25 : decode cX1_setWinner 25 = .ok (.ireturn, 1) := by decide +kernel
theorem dX1_setWinner_26 : decode cX1_setWinner 26 = .ok (.aload_n 0, 1) := by decide +kernel
theorem dX1_setWinner_27 : decode cX1_setWinner 27 = .ok (.getfield 21, 3) := by decide +kernel
theorem dX1_setWinner_30 : decode cX1_setWinner 30 = .ok (.iload_n 1, 1) := by decide +kernel
theorem dX1_setWinner_31 : decode cX1_setWinner 31 = .ok (.iload_n 2, 1) := by decide +kernel
theorem dX1_setWinner_32 : decode cX1_setWinner 32 = .ok (.iastore, 1) := by decide +kernel
theorem dX1_setWinner_33 : decode cX1_setWinner 33 = .ok (.iconst 1, 1) := by decide +kernel
theorem dX1_setWinner_34 : decode cX1_setWinner 34 = .ok (.ireturn, 1) := by decide +kernel
set_option maxRecDepth 20000 in
theorem ggX1_castVote_X1_isHeat : GoodIn wsX1_castVote wsX1_isHeat := goodIn_r _ [8, 9, 29, 30, 31, 32, 33, 34, 35, 36, 37, 38, 39, 40, 41, 42, 43, 44] (by decide +kernel) (by decide +kernel)
set_option maxRecDepth 20000 in
theorem gX1_castVote_X1_isHeat : GoodIn wsX1_castVote (wsV RX1 107 RX1 yX1_isHeat wsX1_isHeat) := goodIn_app (goodIn_of _ (by decide +kernel)) ggX1_castVote_X1_isHeat
set_option maxRecDepth 20000 in
theorem ggX1_castVote_X1_isIn : GoodIn wsX1_castVote wsX1_isIn := goodIn_r _ [13, 14, 15, 16, 17, 7, 18, 19, 4, 5, 6, 8, 9, 20, 21, 22, 23, 24, 25, 26, 27, 28, 29, 30, 31, 32, 33, 34, 35, 36, 37, 38, 39, 40, 41, 42, 43, 44] (by decide +kernel) (by decide +kernel)
set_option maxRecDepth 20000 in
theorem gX1_castVote_X1_isIn : GoodIn wsX1_castVote (wsV RX1 116 RX1 yX1_isIn wsX1_isIn) := goodIn_app (goodIn_of _ (by decide +kernel)) ggX1_castVote_X1_isIn
theorem dX1_castVote_0 : decode cX1_castVote 0 = .ok (.iload_n 1, 1) := by decide +kernel
theorem dX1_castVote_1 : decode cX1_castVote 1 = .ok (.ifCond .lt 35, 3) := by decide +kernel
theorem dX1_castVote_4 : decode cX1_castVote 4 = .ok (.iload_n 1, 1) := by decide +kernel
theorem dX1_castVote_5 : decode cX1_castVote 5 = .ok (.aload_n 0, 1) := by decide +kernel
theorem dX1_castVote_6 : decode cX1_castVote 6 = .ok (.getfield 33, 3) := by decide +kernel
theorem dX1_castVote_9 : decode cX1_castVote 9 = .ok (.if_icmp .ge 27, 3) := by decide +kernel
theorem dX1_castVote_12 : decode cX1_castVote 12 = .ok (.aload_n 0, 1) := by decide +kernel
theorem dX1_castVote_13 : decode cX1_castVote 13 = .ok (.getfield 36, 3) := by decide +kernel
theorem dX1_castVote_16 : decode cX1_castVote 16 = .ok (.ifCond .eq 20, 3) := by decide +kernel
theorem dX1_castVote_19 : decode cX1_castVote 19 = .ok (.aload_n 0, 1) := by decide +kernel
theorem dX1_castVote_20 : decode cX1_castVote 20 = .ok (.iload_n 2, 1) := by decide +kernel
theorem dX1_castVote_21 : decode cX1_castVote 21 = .ok (.invokevirtual 107, 3) := by decide +kernel
theorem dX1_castVote_24 : decode cX1_castVote 24 = .ok (.ifCond .eq 12, 3) := by decide +kernel
theorem dX1_castVote_27 : decode cX1_castVote 27 = .ok (.aload_n 0, 1) := by decide +kernel
theorem dX1_castVote_28 : decode cX1_castVote 28 = .ok (.iload_n 2, 1) := by decide +kernel
theorem dX1_castVote_29 : decode cX1_castVote 29 = .ok (.iload_n 3, 1) := by decide +kernel
theorem dX1_castVote_30 : decode cX1_castVote 30 = .ok (.invokevirtual 116, 3) := by decide +kernel
theorem dX1_castVote_33 : decode cX1_castVote 33 = .ok (.ifCond .ne 5, 3) := by decide +kernel
theorem dX1_castVote_36 : decode cX1_castVote 36 = .ok (.iconst 0, 1) := by decide +kernel
theorem dX1_castVote_37 : decode cX1_castVote 37 = .ok (.ireturn, 1) := by decide +kernel
theorem dX1_castVote_38 : decode cX1_castVote 38 = .ok (.aload_n 0, 1) := by decide +kernel
theorem dX1_castVote_39 : decode cX1_castVote 39 = .ok (.getfield 26, 3) := by decide +kernel
theorem dX1_castVote_42 : decode cX1_castVote 42 = .ok (.iload_n 1, 1) := by decide +kernel
theorem dX1_castVote_43 : decode cX1_castVote 43 = .ok (.aaload, 1) := by decide +kernel
theorem dX1_castVote_44 : decode cX1_castVote 44 = .ok (.iload_n 2, 1) := by decide +kernel
theorem dX1_castVote_45 : decode cX1_castVote 45 = .ok (.iload_n 3, 1) := by decide +kernel
theorem dX1_castVote_46 : decode cX1_castVote 46 = .ok (.iastore, 1) := by decide +kernel
theorem dX1_castVote_47 : decode cX1_castVote 47 = .ok (.iconst 1, 1) := by decide +kernel
theorem dX1_castVote_48 : decode cX1_castVote 48 = .ok (.ireturn, 1) := by decide +kernel
set_option maxRecDepth 20000 in
theorem ggX1_decideByVotes_X1_isHeat : GoodIn wsX1_decideByVotes wsX1_isHeat := goodIn_r _ [7, 8, 36, 37, 38, 39, 40, 41, 42, 43, 44, 45, 46, 47, 48, 49, 50, 51] (by decide +kernel) (by decide +kernel)
set_option maxRecDepth 20000 in
theorem gX1_decideByVotes_X1_isHeat : GoodIn wsX1_decideByVotes (wsV RX1 107 RX1 yX1_isHeat wsX1_isHeat) := goodIn_app (goodIn_of _ (by decide +kernel)) ggX1_decideByVotes_X1_isHeat
set_option maxRecDepth 20000 in
theorem ggX1_decideByVotes_X1_sizeOf : GoodIn wsX1_decideByVotes wsX1_sizeOf := goodIn_r _ [12, 13, 14, 15, 16, 17, 18, 36, 37, 38, 39, 40, 41, 42, 43, 44, 45, 46, 47, 48, 49, 50, 51] (by decide +kernel) (by decide +kernel)
set_option maxRecDepth 20000 in
theorem gX1_decideByVotes_X1_sizeOf : GoodIn wsX1_decideByVotes (wsV RX1 110 RX1 yX1_sizeOf wsX1_sizeOf) := goodIn_app (goodIn_of _ (by decide +kernel)) ggX1_decideByVotes_X1_sizeOf
set_option maxRecDepth 20000 in
theorem ggX1_decideByVotes_X1_runnerAt : GoodIn wsX1_decideByVotes wsX1_runnerAt := goodIn_r _ [22, 23, 13, 3, 4, 5, 6, 7, 8, 9, 10, 11, 12, 14, 15, 16, 17, 18, 36, 37, 38, 39, 40, 41, 42, 43, 44, 45, 46, 47, 48, 49, 50, 51] (by decide +kernel) (by decide +kernel)
set_option maxRecDepth 20000 in
theorem gX1_decideByVotes_X1_runnerAt : GoodIn wsX1_decideByVotes (wsV RX1 113 RX1 yX1_runnerAt wsX1_runnerAt) := goodIn_app (goodIn_of _ (by decide +kernel)) ggX1_decideByVotes_X1_runnerAt
set_option maxRecDepth 20000 in
theorem ggX1_decideByVotes_X1_votesFor : GoodIn wsX1_decideByVotes wsX1_votesFor := goodIn_r _ [27, 28, 29, 30, 31, 32, 33, 6, 34, 35, 9, 10, 11, 12, 13, 14, 15, 16, 17, 18, 19, 20, 21, 22, 23, 3, 4, 5, 7, 8, 36, 37, 38, 39, 40, 41, 42, 43, 44, 45, 46, 47, 48, 49, 50, 51] (by decide +kernel) (by decide +kernel)
set_option maxRecDepth 20000 in
theorem gX1_decideByVotes_X1_votesFor : GoodIn wsX1_decideByVotes (wsV RX1 122 RX1 yX1_votesFor wsX1_votesFor) := goodIn_app (goodIn_of _ (by decide +kernel)) ggX1_decideByVotes_X1_votesFor
theorem dX1_decideByVotes_0 : decode cX1_decideByVotes 0 = .ok (.aload_n 0, 1) := by decide +kernel
theorem dX1_decideByVotes_1 : decode cX1_decideByVotes 1 = .ok (.getfield 36, 3) := by decide +kernel
theorem dX1_decideByVotes_4 : decode cX1_decideByVotes 4 = .ok (.ifCond .eq 11, 3) := by decide +kernel
theorem dX1_decideByVotes_7 : decode cX1_decideByVotes 7 = .ok (.aload_n 0, 1) := by decide +kernel
theorem dX1_decideByVotes_8 : decode cX1_decideByVotes 8 = .ok (.iload_n 1, 1) := by decide +kernel
theorem dX1_decideByVotes_9 : decode cX1_decideByVotes 9 = .ok (.invokevirtual 107, 3) := by decide +kernel
theorem dX1_decideByVotes_12 : decode cX1_decideByVotes 12 = .ok (.ifCond .ne 5, 3) := by decide +kernel
theorem dX1_decideByVotes_15 : decode cX1_decideByVotes 15 = .ok (.iconst (-1), 1) := by decide +kernel
theorem dX1_decideByVotes_16 : decode cX1_decideByVotes 16 = .ok (.ireturn, 1) := by decide +kernel
theorem dX1_decideByVotes_17 : decode cX1_decideByVotes 17 = .ok (.iconst 0, 1) := by decide +kernel
theorem dX1_decideByVotes_18 : decode cX1_decideByVotes 18 = .ok (.istore_n 2, 1) := by decide +kernel
theorem dX1_decideByVotes_19 : decode cX1_decideByVotes 19 = .ok (.iconst 0, 1) := by decide +kernel
theorem dX1_decideByVotes_20 : decode cX1_decideByVotes 20 = .ok (.istore_n 3, 1) := by decide +kernel
theorem dX1_decideByVotes_21 : decode cX1_decideByVotes 21 = .ok (.iload_n 3, 1) := by decide +kernel
theorem dX1_decideByVotes_22 : decode cX1_decideByVotes 22 = .ok (.aload_n 0, 1) := by decide +kernel
theorem dX1_decideByVotes_23 : decode cX1_decideByVotes 23 = .ok (.iload_n 1, 1) := by decide +kernel
theorem dX1_decideByVotes_24 : decode cX1_decideByVotes 24 = .ok (.invokevirtual 110, 3) := by decide +kernel
theorem dX1_decideByVotes_27 : decode cX1_decideByVotes 27 = .ok (.if_icmp .ge 23, 3) := by decide +kernel
theorem dX1_decideByVotes_30 : decode cX1_decideByVotes 30 = .ok (.iload_n 2, 1) := by decide +kernel
theorem dX1_decideByVotes_31 : decode cX1_decideByVotes 31 = .ok (.aload_n 0, 1) := by decide +kernel
theorem dX1_decideByVotes_32 : decode cX1_decideByVotes 32 = .ok (.iload_n 1, 1) := by decide +kernel
theorem dX1_decideByVotes_33 : decode cX1_decideByVotes 33 = .ok (.aload_n 0, 1) := by decide +kernel
theorem dX1_decideByVotes_34 : decode cX1_decideByVotes 34 = .ok (.iload_n 1, 1) := by decide +kernel
theorem dX1_decideByVotes_35 : decode cX1_decideByVotes 35 = .ok (.iload_n 3, 1) := by decide +kernel
theorem dX1_decideByVotes_36 : decode cX1_decideByVotes 36 = .ok (.invokevirtual 113, 3) := by decide +kernel
theorem dX1_decideByVotes_39 : decode cX1_decideByVotes 39 = .ok (.invokevirtual 122, 3) := by decide +kernel
theorem dX1_decideByVotes_42 : decode cX1_decideByVotes 42 = .ok (.iadd, 1) := by decide +kernel
theorem dX1_decideByVotes_43 : decode cX1_decideByVotes 43 = .ok (.istore_n 2, 1) := by decide +kernel
theorem dX1_decideByVotes_44 : decode cX1_decideByVotes 44 = .ok (.iinc 3 1, 3) := by decide +kernel
theorem dX1_decideByVotes_47 : decode cX1_decideByVotes 47 = .ok (.goto (-26), 3) := by decide +kernel
theorem dX1_decideByVotes_50 : decode cX1_decideByVotes 50 = .ok (.iconst 0, 1) := by decide +kernel
theorem dX1_decideByVotes_51 : decode cX1_decideByVotes 51 = .ok (.istore_n 3, 1) := by decide +kernel
theorem dX1_decideByVotes_52 : decode cX1_decideByVotes 52 = .ok (.iload_n 3, 1) := by decide +kernel
theorem dX1_decideByVotes_53 : decode cX1_decideByVotes 53 = .ok (.aload_n 0, 1) := by decide +kernel
theorem dX1_decideByVotes_54 : decode cX1_decideByVotes 54 = .ok (.iload_n 1, 1) := by decide +kernel
theorem dX1_decideByVotes_55 : decode cX1_decideByVotes 55 = .ok (.invokevirtual 110, 3) := by decide +kernel
theorem dX1_decideByVotes_58 : decode cX1_decideByVotes 58 = .ok (.if_icmp .ge 41, 3) := by decide +kernel
theorem dX1_decideByVotes_61 : decode cX1_decideByVotes 61 = .ok (.aload_n 0, 1) := by decide +kernel
theorem dX1_decideByVotes_62 : decode cX1_decideByVotes 62 = .ok (.iload_n 1, 1) := by decide +kernel
theorem dX1_decideByVotes_63 : decode cX1_decideByVotes 63 = .ok (.iload_n 3, 1) := by decide +kernel
theorem dX1_decideByVotes_64 : decode cX1_decideByVotes 64 = .ok (.invokevirtual 113, 3) := by decide +kernel
theorem dX1_decideByVotes_67 : decode cX1_decideByVotes 67 = .ok (.istore 4, 2) := by decide +kernel
theorem dX1_decideByVotes_69 : decode cX1_decideByVotes 69 = .ok (.iconst 2, 1) := by decide +kernel
theorem dX1_decideByVotes_70 : decode cX1_decideByVotes 70 = .ok (.aload_n 0, 1) := by decide +kernel
theorem dX1_decideByVotes_71 : decode cX1_decideByVotes 71 = .ok (.iload_n 1, 1) := by decide +kernel
theorem dX1_decideByVotes_72 : decode cX1_decideByVotes 72 = .ok (.iload 4, 2) := by decide +kernel
theorem dX1_decideByVotes_74 : decode cX1_decideByVotes 74 = .ok (.invokevirtual 122, 3) := by decide +kernel
theorem dX1_decideByVotes_77 : decode cX1_decideByVotes 77 = .ok (.imul, 1) := by decide +kernel
theorem dX1_decideByVotes_78 : decode cX1_decideByVotes 78 = .ok (.iload_n 2, 1) := by decide +kernel
theorem dX1_decideByVotes_79 : decode cX1_decideByVotes 79 = .ok (.if_icmp .le 14, 3) := by decide +kernel
theorem dX1_decideByVotes_82 : decode cX1_decideByVotes 82 = .ok (.aload_n 0, 1) := by decide +kernel
theorem dX1_decideByVotes_83 : decode cX1_decideByVotes 83 = .ok (.getfield 21, 3) := by decide +kernel
theorem dX1_decideByVotes_86 : decode cX1_decideByVotes 86 = .ok (.iload_n 1, 1) := by decide +kernel
theorem dX1_decideByVotes_87 : decode cX1_decideByVotes 87 = .ok (.iload 4, 2) := by decide +kernel
theorem dX1_decideByVotes_89 : decode cX1_decideByVotes 89 = .ok (.iastore, 1) := by decide +kernel
theorem dX1_decideByVotes_90 : decode cX1_decideByVotes 90 = .ok (.iload 4, 2) := by decide +kernel
theorem dX1_decideByVotes_92 : decode cX1_decideByVotes 92 = .ok (.ireturn, 1) := by decide +kernel
theorem dX1_decideByVotes_93 : decode cX1_decideByVotes 93 = .ok (.iinc 3 1, 3) := by decide +kernel
theorem dX1_decideByVotes_96 : decode cX1_decideByVotes 96 = .ok (.goto (-44), 3) := by decide +kernel
theorem dX1_decideByVotes_99 : decode cX1_decideByVotes 99 = .ok (.bipush (-2), 2) := by decide +kernel
theorem dX1_decideByVotes_101 : decode cX1_decideByVotes 101 = .ok (.ireturn, 1) := by decide +kernel
set_option maxRecDepth 20000 in
theorem ggX1_votesFor_X1_hasTown : GoodIn wsX1_votesFor wsX1_hasTown := goodIn_r _ [8, 9, 10, 11, 12, 7, 13, 14, 15, 16, 17, 18, 19, 20, 21, 22, 23, 24, 25, 26, 27, 28, 29, 30, 31, 32, 33, 34, 35, 36, 37, 38, 39, 40, 41, 42, 43, 44, 45] (by decide +kernel) (by decide +kernel)
set_option maxRecDepth 20000 in
theorem gX1_votesFor_X1_hasTown : GoodIn wsX1_votesFor (wsV RX1 125 RX1 yX1_hasTown wsX1_hasTown) := goodIn_app (goodIn_of _ (by decide +kernel)) ggX1_votesFor_X1_hasTown
theorem dX1_votesFor_0 : decode cX1_votesFor 0 = .ok (.iconst 0, 1) := by decide +kernel
theorem dX1_votesFor_1 : decode cX1_votesFor 1 = .ok (.istore_n 3, 1) := by decide +kernel
theorem dX1_votesFor_2 : decode cX1_votesFor 2 = .ok (.iconst 0, 1) := by decide +kernel
theorem dX1_votesFor_3 : decode cX1_votesFor 3 = .ok (.istore 4, 2) := by decide +kernel
theorem dX1_votesFor_5 : decode cX1_votesFor 5 = .ok (.iload 4, 2) := by decide +kernel
theorem dX1_votesFor_7 : decode cX1_votesFor 7 = .ok (.aload_n 0, 1) := by decide +kernel
theorem dX1_votesFor_8 : decode cX1_votesFor 8 = .ok (.getfield 33, 3) := by decide +kernel
theorem dX1_votesFor_11 : decode cX1_votesFor 11 = .ok (.if_icmp .ge 40, 3) := by decide +kernel
theorem dX1_votesFor_14 : decode cX1_votesFor 14 = .ok (.aload_n 0, 1) := by decide +kernel
theorem dX1_votesFor_15 : decode cX1_votesFor 15 = .ok (.getfield 26, 3) := by decide +kernel
theorem dX1_votesFor_18 : decode cX1_votesFor 18 = .ok (.iload 4, 2) := by decide +kernel
theorem dX1_votesFor_20 : decode cX1_votesFor 20 = .ok (.aaload, 1) := by decide +kernel
theorem dX1_votesFor_21 : decode cX1_votesFor 21 = .ok (.iload_n 1, 1) := by decide +kernel
theorem dX1_votesFor_22 : decode cX1_votesFor 22 = .ok (.iaload, 1) := by decide +kernel
theorem dX1_votesFor_23 : decode cX1_votesFor 23 = .ok (.iload_n 2, 1) := by decide +kernel
theorem dX1_votesFor_24 : decode cX1_votesFor 24 = .ok (.if_icmp .ne 21, 3) := by decide +kernel
theorem dX1_votesFor_27 : decode cX1_votesFor 27 = .ok (.aload_n 0, 1) := by decide +kernel
theorem dX1_votesFor_28 : decode cX1_votesFor 28 = .ok (.iload_n 1, 1) := by decide +kernel
theorem dX1_votesFor_29 : decode cX1_votesFor 29 = .ok (.aload_n 0, 1) := by decide +kernel
theorem dX1_votesFor_30 : decode cX1_votesFor 30 = .ok (.getfield 15, 3) := by decide +kernel
theorem dX1_votesFor_33 : decode cX1_votesFor 33 = .ok (.iload 4, 2) := by decide +kernel
theorem dX1_votesFor_35 : decode cX1_votesFor 35 = .ok (.iaload, 1) := by decide +kernel
theorem dX1_votesFor_36 : decode cX1_votesFor 36 = .ok (.invokevirtual 125, 3) := by decide +kernel
theorem dX1_votesFor_39 : decode cX1_votesFor 39 = .ok (.ifCond .ne 6, 3) := by decide +kernel
theorem dX1_votesFor_42 : decode cX1_votesFor 42 = .ok (.iinc 3 1, 3) := by decide +kernel
theorem dX1_votesFor_45 : decode cX1_votesFor 45 = .ok (.iinc 4 1, 3) := by decide +kernel
theorem dX1_votesFor_48 : decode cX1_votesFor 48 = .ok (.goto (-43), 3) := by decide +kernel
theorem dX1_votesFor_51 : decode cX1_votesFor 51 = .ok (.iload_n 3, 1) := by decide +kernel
theorem dX1_votesFor_52 : decode cX1_votesFor 52 = .ok (.ireturn, 1) := by decide +kernel
set_option maxRecDepth 20000 in
theorem ggX1_hasTown_X1_sizeOf : GoodIn wsX1_hasTown wsX1_sizeOf := goodIn_r _ [6, 7, 8, 9, 10, 11, 12, 23, 24, 25, 26, 27, 28, 29, 30, 31, 32, 33, 34, 35, 36, 37, 38] (by decide +kernel) (by decide +kernel)
set_option maxRecDepth 20000 in
theorem gX1_hasTown_X1_sizeOf : GoodIn wsX1_hasTown (wsV RX1 110 RX1 yX1_sizeOf wsX1_sizeOf) := goodIn_app (goodIn_of _ (by decide +kernel)) ggX1_hasTown_X1_sizeOf
set_option maxRecDepth 20000 in
theorem ggX1_hasTown_X1_runnerAt : GoodIn wsX1_hasTown wsX1_runnerAt := goodIn_r _ [16, 17, 7, 18, 19, 20, 5, 21, 22, 2, 3, 4, 6, 8, 9, 10, 11, 12, 23, 24, 25, 26, 27, 28, 29, 30, 31, 32, 33, 34, 35, 36, 37, 38] (by decide +kernel) (by decide +kernel)
set_option maxRecDepth 20000 in
theorem gX1_hasTown_X1_runnerAt : GoodIn wsX1_hasTown (wsV RX1 113 RX1 yX1_runnerAt wsX1_runnerAt) := goodIn_app (goodIn_of _ (by decide +kernel)) ggX1_hasTown_X1_runnerAt
theorem dX1_hasTown_0 : decode cX1_hasTown 0 = .ok (.iconst 0, 1) := by decide +kernel
theorem dX1_hasTown_1 : decode cX1_hasTown 1 = .ok (.istore_n 3, 1) := by decide +kernel
theorem dX1_hasTown_2 : decode cX1_hasTown 2 = .ok (.iload_n 3, 1) := by decide +kernel
theorem dX1_hasTown_3 : decode cX1_hasTown 3 = .ok (.aload_n 0, 1) := by decide +kernel
theorem dX1_hasTown_4 : decode cX1_hasTown 4 = .ok (.iload_n 1, 1) := by decide +kernel
theorem dX1_hasTown_5 : decode cX1_hasTown 5 = .ok (.invokevirtual 110, 3) := by decide +kernel
theorem dX1_hasTown_8 : decode cX1_hasTown 8 = .ok (.if_icmp .ge 35, 3) := by decide +kernel
theorem dX1_hasTown_11 : decode cX1_hasTown 11 = .ok (.aload_n 0, 1) := by decide +kernel
theorem dX1_hasTown_12 : decode cX1_hasTown 12 = .ok (.iload_n 1, 1) := by decide +kernel
theorem dX1_hasTown_13 : decode cX1_hasTown 13 = .ok (.iload_n 3, 1) := by decide +kernel
theorem dX1_hasTown_14 : decode cX1_hasTown 14 = .ok (.invokevirtual 113, 3) := by decide +kernel
theorem dX1_hasTown_17 : decode cX1_hasTown 17 = .ok (.istore 4, 2) := by decide +kernel
theorem dX1_hasTown_19 : decode cX1_hasTown 19 = .ok (.iload 4, 2) := by decide +kernel
theorem dX1_hasTown_21 : decode cX1_hasTown 21 = .ok (.ifCond .lt 16, 3) := by decide +kernel
theorem dX1_hasTown_24 : decode cX1_hasTown 24 = .ok (.aload_n 0, 1) := by decide +kernel
theorem dX1_hasTown_25 : decode cX1_hasTown 25 = .ok (.getfield 11, 3) := by decide +kernel
theorem dX1_hasTown_28 : decode cX1_hasTown 28 = .ok (.iload 4, 2) := by decide +kernel
theorem dX1_hasTown_30 : decode cX1_hasTown 30 = .ok (.iaload, 1) := by decide +kernel
theorem dX1_hasTown_31 : decode cX1_hasTown 31 = .ok (.iload_n 2, 1) := by decide +kernel
theorem dX1_hasTown_32 : decode cX1_hasTown 32 = .ok (.if_icmp .ne 5, 3) := by decide +kernel
theorem dX1_hasTown_35 : decode cX1_hasTown 35 = .ok (.iconst 1, 1) := by decide +kernel
theorem dX1_hasTown_36 : decode cX1_hasTown 36 = .ok (.ireturn, 1) := by decide +kernel
theorem dX1_hasTown_37 : decode cX1_hasTown 37 = .ok (.iinc 3 1, 3) := by decide +kernel
theorem dX1_hasTown_40 : decode cX1_hasTown 40 = .ok (.goto (-38), 3) := by decide +kernel
theorem dX1_hasTown_43 : decode cX1_hasTown 43 = .ok (.iconst 0, 1) := by decide +kernel
theorem dX1_hasTown_44 : decode cX1_hasTown 44 = .ok (.ireturn, 1) := by decide +kernel
set_option maxRecDepth 20000 in
theorem ggX1_goOn_X1_openHeats : GoodIn wsX1_goOn wsX1_openHeats := goodIn_r _ [9, 2, 4, 55, 56, 57, 58, 59, 60, 61, 62, 63, 64, 65, 66, 67, 68, 69, 70] (by decide +kernel) (by decide +kernel)
set_option maxRecDepth 20000 in
theorem gX1_goOn_X1_openHeats : GoodIn wsX1_goOn (wsV RX1 119 RX1 yX1_openHeats wsX1_openHeats) := goodIn_app (goodIn_of _ (by decide +kernel)) ggX1_goOn_X1_openHeats
set_option maxRecDepth 20000 in
theorem ggX1_goOn_X1_end : GoodIn wsX1_goOn wsX1_end := goodIn_r _ [13, 14, 1, 55, 56, 57, 58, 59, 60, 61, 62, 63, 64, 65, 66, 67, 68, 69, 70] (by decide +kernel) (by decide +kernel)
set_option maxRecDepth 20000 in
theorem gX1_goOn_X1_end : GoodIn wsX1_goOn (wsV RX1 128 RX1 yX1_end wsX1_end) := goodIn_app (goodIn_of _ (by decide +kernel)) ggX1_goOn_X1_end
set_option maxRecDepth 20000 in
theorem ggX1_goOn_X1_enter : GoodIn wsX1_goOn wsX1_enter := goodIn_r _ [18, 19, 20, 21, 22, 23, 24, 55, 56, 57, 58, 59, 60, 61, 62, 63, 64, 65, 66, 67, 68, 69, 70] (by decide +kernel) (by decide +kernel)
set_option maxRecDepth 20000 in
theorem gX1_goOn_X1_enter : GoodIn wsX1_goOn (wsV RX1 68 RX1 yX1_enter wsX1_enter) := goodIn_app (goodIn_of _ (by decide +kernel)) ggX1_goOn_X1_enter
set_option maxRecDepth 20000 in
theorem ggX1_goOn_X1_beginRound : GoodIn wsX1_goOn wsX1_beginRound := goodIn_r _ [28, 29, 30, 19, 2, 3, 4, 31, 32, 33, 34, 8, 35, 36, 37, 38, 39, 40, 41, 21, 42, 43, 44, 45, 46, 22, 23, 24, 47, 48, 49, 50, 51, 52, 53, 54, 55, 56, 57, 58, 59, 60, 61, 62, 63, 64, 65, 66, 67, 68, 69, 70] (by decide +kernel) (by decide +kernel)
set_option maxRecDepth 20000 in
theorem gX1_goOn_X1_beginRound : GoodIn wsX1_goOn (wsV RX1 72 RX1 yX1_beginRound wsX1_beginRound) := goodIn_app (goodIn_of _ (by decide +kernel)) ggX1_goOn_X1_beginRound
theorem dX1_goOn_0 : decode cX1_goOn 0 = .ok (.aload_n 0, 1) := by decide +kernel
theorem dX1_goOn_1 : decode cX1_goOn 1 = .ok (.getfield 36, 3) := by decide +kernel
theorem dX1_goOn_4 : decode cX1_goOn 4 = .ok (.ifCond .eq 10, 3) := by decide +kernel
theorem dX1_goOn_7 : decode cX1_goOn 7 = .ok (.aload_n 0, 1) := by decide +kernel
theorem dX1_goOn_8 : decode cX1_goOn 8 = .ok (.invokevirtual 119, 3) := by decide +kernel
theorem dX1_goOn_11 : decode cX1_goOn 11 = .ok (.ifCond .le 5, 3) := by decide +kernel
theorem dX1_goOn_14 : decode cX1_goOn 14 = .ok (.iconst (-1), 1) := by decide +kernel
theorem dX1_goOn_15 : decode cX1_goOn 15 = .ok (.ireturn, 1) := by decide +kernel
theorem dX1_goOn_16 : decode cX1_goOn 16 = .ok (.aload_n 0, 1) := by decide +kernel
theorem dX1_goOn_17 : decode cX1_goOn 17 = .ok (.getfield 49, 3) := by decide +kernel
theorem dX1_goOn_20 : decode cX1_goOn 20 = .ok (.ifCond .ne 12, 3) := by decide +kernel
theorem dX1_goOn_23 : decode cX1_goOn 23 = .ok (.aload_n 0, 1) := by decide +kernel
theorem dX1_goOn_24 : decode cX1_goOn 24 = .ok (.aload_n 0, 1) := by decide +kernel
theorem dX1_goOn_25 : decode cX1_goOn 25 = .ok (.getfield 52, 3) := by decide +kernel
theorem dX1_goOn_28 : decode cX1_goOn 28 = .ok (.invokevirtual 128, 3) := by decide +kernel
theorem dX1_goOn_31 : decode cX1_goOn 31 = .ok (.ireturn, 1) := by decide +kernel
theorem dX1_goOn_32 : decode cX1_goOn 32 = .ok (.aload_n 0, 1) := by decide +kernel
theorem dX1_goOn_33 : decode cX1_goOn 33 = .ok (.getfield 49, 3) := by decide +kernel
theorem dX1_goOn_36 : decode cX1_goOn 36 = .ok (.iconst 1, 1) := by decide +kernel
theorem dX1_goOn_37 : decode cX1_goOn 37 = .ok (.if_icmp .ne 22, 3) := by decide +kernel
theorem dX1_goOn_40 : decode cX1_goOn 40 = .ok (.aload_n 0, 1) := by decide +kernel
theorem dX1_goOn_41 : decode cX1_goOn 41 = .ok (.getfield 52, 3) := by decide +kernel
theorem dX1_goOn_44 : decode cX1_goOn 44 = .ok (.iconst (-1), 1) := by decide +kernel
theorem dX1_goOn_45 : decode cX1_goOn 45 = .ok (.if_icmp .ne 14, 3) := by decide +kernel
theorem dX1_goOn_48 : decode cX1_goOn 48 = .ok (.aload_n 0, 1) := by decide +kernel
theorem dX1_goOn_49 : decode cX1_goOn 49 = .ok (.aload_n 0, 1) := by decide +kernel
theorem dX1_goOn_50 : decode cX1_goOn 50 = .ok (.getfield 21, 3) := by decide +kernel
theorem dX1_goOn_53 : decode cX1_goOn 53 = .ok (.iconst 0, 1) := by decide +kernel
theorem dX1_goOn_54 : decode cX1_goOn 54 = .ok (.iaload, 1) := by decide +kernel
theorem dX1_goOn_55 : decode cX1_goOn 55 = .ok (.invokevirtual 128, 3) := by decide +kernel
theorem dX1_goOn_58 : decode cX1_goOn 58 = .ok (.ireturn, 1) := by decide +kernel
theorem dX1_goOn_59 : decode cX1_goOn 59 = .ok (.aload_n 0, 1) := by decide +kernel
theorem dX1_goOn_60 : decode cX1_goOn 60 = .ok (.getfield 52, 3) := by decide +kernel
theorem dX1_goOn_63 : decode cX1_goOn 63 = .ok (.iconst (-1), 1) := by decide +kernel
theorem dX1_goOn_64 : decode cX1_goOn 64 = .ok (.if_icmp .ne 7, 3) := by decide +kernel
theorem dX1_goOn_67 : decode cX1_goOn 67 = .ok (.iconst 0, 1) := by decide +kernel
theorem dX1_goOn_68 : decode cX1_goOn 68 = .ok (.goto 9, 3) := by decide +kernel
theorem dX1_goOn_71 : decode cX1_goOn 71 = .ok (.iconst 1, 1) := by decide +kernel
theorem dX1_goOn_72 : decode cX1_goOn 72 = .ok (.aload_n 0, 1) := by decide +kernel
theorem dX1_goOn_73 : decode cX1_goOn 73 = .ok (.getfield 52, 3) := by decide +kernel
theorem dX1_goOn_76 : decode cX1_goOn 76 = .ok (.ishl, 1) := by decide +kernel
theorem dX1_goOn_77 : decode cX1_goOn 77 = .ok (.istore_n 1, 1) := by decide +kernel
theorem dX1_goOn_78 : decode cX1_goOn 78 = .ok (.iconst 0, 1) := by decide +kernel
theorem dX1_goOn_79 : decode cX1_goOn 79 = .ok (.istore_n 2, 1) := by decide +kernel
theorem dX1_goOn_80 : decode cX1_goOn 80 = .ok (.iload_n 2, 1) := by decide +kernel
theorem dX1_goOn_81 : decode cX1_goOn 81 = .ok (.aload_n 0, 1) := by decide +kernel
theorem dX1_goOn_82 : decode cX1_goOn 82 = .ok (.getfield 49, 3) := by decide +kernel
theorem dX1_goOn_85 : decode cX1_goOn 85 = .ok (.if_icmp .ge 20, 3) := by decide +kernel
theorem dX1_goOn_88 : decode cX1_goOn 88 = .ok (.iload_n 1, 1) := by decide +kernel
theorem dX1_goOn_89 : decode cX1_goOn 89 = .ok (.iconst 1, 1) := by decide +kernel
theorem dX1_goOn_90 : decode cX1_goOn 90 = .ok (.aload_n 0, 1) := by decide +kernel
theorem dX1_goOn_91 : decode cX1_goOn 91 = .ok (.getfield 21, 3) := by decide +kernel
theorem dX1_goOn_94 : decode cX1_goOn 94 = .ok (.iload_n 2, 1) := by decide +kernel
theorem dX1_goOn_95 : decode cX1_goOn 95 = .ok (.iaload, 1) := by decide +kernel
theorem dX1_goOn_96 : decode cX1_goOn 96 = .ok (.ishl, 1) := by decide +kernel
theorem dX1_goOn_97 : decode cX1_goOn 97 = .ok (.ior, 1) := by decide +kernel
theorem dX1_goOn_98 : decode cX1_goOn 98 = .ok (.istore_n 1, 1) := by decide +kernel
theorem dX1_goOn_99 : decode cX1_goOn 99 = .ok (.iinc 2 1, 3) := by decide +kernel
theorem dX1_goOn_102 : decode cX1_goOn 102 = .ok (.goto (-22), 3) := by decide +kernel
theorem dX1_goOn_105 : decode cX1_goOn 105 = .ok (.aload_n 0, 1) := by decide +kernel
theorem dX1_goOn_106 : decode cX1_goOn 106 = .ok (.iload_n 1, 1) := by decide +kernel
theorem dX1_goOn_107 : decode cX1_goOn 107 = .ok (.invokevirtual 68, 3) := by decide +kernel
theorem dX1_goOn_110 : decode cX1_goOn 110 = .ok (.aload_n 0, 1) := by decide +kernel
theorem dX1_goOn_111 : decode cX1_goOn 111 = .ok (.invokevirtual 72, 3) := by decide +kernel
theorem dX1_goOn_114 : decode cX1_goOn 114 = .ok (.ireturn, 1) := by decide +kernel
theorem dX1_end_0 : decode cX1_end 0 = .ok (.aload_n 0, 1) := by decide +kernel
theorem dX1_end_1 : decode cX1_end 1 = .ok (.iload_n 1, 1) := by decide +kernel
theorem dX1_end_2 : decode cX1_end 2 = .ok (.putfield 58, 3) := by decide +kernel
theorem dX1_end_5 : decode cX1_end 5 = .ok (.aload_n 0, 1) := by decide +kernel
theorem dX1_end_6 : decode cX1_end 6 = .ok (.iconst 0, 1) := by decide +kernel
theorem dX1_end_7 : decode cX1_end 7 = .ok (.putfield 36, 3) := by decide +kernel
theorem dX1_end_10 : decode cX1_end 10 = .ok (.iconst 0, 1) := by decide +kernel
theorem dX1_end_11 : decode cX1_end 11 = .ok (.ireturn, 1) := by decide +kernel
