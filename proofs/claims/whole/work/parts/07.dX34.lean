theorem dX3_init_0 : decode cX3_init 0 = .ok (.aload_n 0, 1) := by decide +kernel
theorem dX3_init_1 : decode cX3_init 1 = .ok (.invokespecial 3, 3) := by decide +kernel
theorem dX3_init_4 : decode cX3_init 4 = .ok (.aload_n 0, 1) := by decide +kernel
theorem dX3_init_5 : decode cX3_init 5 = .ok (.bipush 6, 2) := by decide +kernel
theorem dX3_init_7 : decode cX3_init 7 = .ok (.newarray .int, 2) := by decide +kernel
theorem dX3_init_9 : decode cX3_init 9 = .ok (.putfield 11, 3) := by decide +kernel
theorem dX3_init_12 : decode cX3_init 12 = .ok (.aload_n 0, 1) := by decide +kernel
theorem dX3_init_13 : decode cX3_init 13 = .ok (.bipush 6, 2) := by decide +kernel
theorem dX3_init_15 : decode cX3_init 15 = .ok (.newarray .int, 2) := by decide +kernel
theorem dX3_init_17 : decode cX3_init 17 = .ok (.putfield 15, 3) := by decide +kernel
theorem dX3_init_20 : decode cX3_init 20 = .ok (.aload_n 0, 1) := by decide +kernel
theorem dX3_init_21 : decode cX3_init 21 = .ok (.bipush 6, 2) := by decide +kernel
theorem dX3_init_23 : decode cX3_init 23 = .ok (.newarray .int, 2) := by decide +kernel
theorem dX3_init_25 : decode cX3_init 25 = .ok (.putfield 18, 3) := by decide +kernel
theorem dX3_init_28 : decode cX3_init 28 = .ok (.aload_n 0, 1) := by decide +kernel
theorem dX3_init_29 : decode cX3_init 29 = .ok (.bipush 6, 2) := by decide +kernel
theorem dX3_init_31 : decode cX3_init 31 = .ok (.newarray .int, 2) := by decide +kernel
theorem dX3_init_33 : decode cX3_init 33 = .ok (.putfield 21, 3) := by decide +kernel
theorem dX3_init_36 : decode cX3_init 36 = .ok (.aload_n 0, 1) := by decide +kernel
theorem dX3_init_37 : decode cX3_init 37 = .ok (.bipush 6, 2) := by decide +kernel
theorem dX3_init_39 : decode cX3_init 39 = .ok (.newarray .int, 2) := by decide +kernel
theorem dX3_init_41 : decode cX3_init 41 = .ok (.putfield 24, 3) := by decide +kernel
theorem dX3_init_44 : decode cX3_init 44 = .ok (.aload_n 0, 1) := by decide +kernel
theorem dX3_init_45 : decode cX3_init 45 = .ok (.bipush 6, 2) := by decide +kernel
theorem dX3_init_47 : decode cX3_init 47 = .ok (.newarray .int, 2) := by decide +kernel
theorem dX3_init_49 : decode cX3_init 49 = .ok (.putfield 27, 3) := by decide +kernel
theorem dX3_init_52 : decode cX3_init 52 = .ok (.aload_n 0, 1) := by decide +kernel
theorem dX3_init_53 : decode cX3_init 53 = .ok (.bipush 6, 2) := by decide +kernel
theorem dX3_init_55 : decode cX3_init 55 = .ok (.newarray .int, 2) := by decide +kernel
theorem dX3_init_57 : decode cX3_init 57 = .ok (.putfield 30, 3) := by decide +kernel
theorem dX3_init_60 : decode cX3_init 60 = .ok (.aload_n 0, 1) := by decide +kernel
theorem dX3_init_61 : decode cX3_init 61 = .ok (.iconst 0, 1) := by decide +kernel
theorem dX3_init_62 : decode cX3_init 62 = .ok (.putfield 33, 3) := by decide +kernel
theorem dX3_init_65 : decode cX3_init 65 = .ok (.aload_n 0, 1) := by decide +kernel
theorem dX3_init_66 : decode cX3_init 66 = .ok (.bipush 12, 2) := by decide +kernel
theorem dX3_init_68 : decode cX3_init 68 = .ok (.putfield 37, 3) := by decide +kernel
theorem dX3_init_71 : decode cX3_init 71 = .ok (.aload_n 0, 1) := by decide +kernel
theorem dX3_init_72 : decode cX3_init 72 = .ok (.bipush 6, 2) := by decide +kernel
theorem dX3_init_74 : decode cX3_init 74 = .ok (.newarray .int, 2) := by decide +kernel
theorem dX3_init_76 : decode cX3_init 76 = .ok (.putfield 40, 3) := by decide +kernel
theorem dX3_init_79 : decode cX3_init 79 = .ok (.aload_n 0, 1) := by decide +kernel
theorem dX3_init_80 : decode cX3_init 80 = .ok (.bipush 6, 2) := by decide +kernel
theorem dX3_init_82 : decode cX3_init 82 = .ok (.newarray .int, 2) := by decide +kernel
theorem dX3_init_84 : decode cX3_init 84 = .ok (.putfield 43, 3) := by decide +kernel
theorem dX3_init_87 : decode cX3_init 87 = .ok (.aload_n 0, 1) := by decide +kernel
theorem dX3_init_88 : decode cX3_init 88 = .ok (.bipush 6, 2) := by decide +kernel
theorem dX3_init_90 : decode cX3_init 90 = .ok (.newarray .long, 2) := by decide +kernel
theorem dX3_init_92 : decode cX3_init 92 = .ok (.putfield 46, 3) := by decide +kernel
theorem dX3_init_95 : decode cX3_init 95 = .ok (.aload_n 0, 1) := by decide +kernel
theorem dX3_init_96 : decode cX3_init 96 = .ok (.iconst (-1), 1) := by decide +kernel
theorem dX3_init_97 : decode cX3_init 97 = .ok (.putfield 50, 3) := by decide +kernel
theorem dX3_init_100 : decode cX3_init 100 = .ok (.aload_n 0, 1) := by decide +kernel
theorem dX3_init_101 : decode cX3_init 101 = .ok (.iconst (-1), 1) := by decide +kernel
theorem dX3_init_102 : decode cX3_init 102 = .ok (.putfield 53, 3) := by decide +kernel
theorem dX3_init_105 : decode cX3_init 105 = .ok (.return_, 1) := by decide +kernel
theorem dX3_isStone_0 : decode cX3_isStone 0 = .ok (.iload_n 1, 1) := by decide +kernel
theorem dX3_isStone_1 : decode cX3_isStone 1 = .ok (.ifCond .lt 15, 3) := by decide +kernel
theorem dX3_isStone_4 : decode cX3_isStone 4 = .ok (.iload_n 1, 1) := by decide +kernel
theorem dX3_isStone_5 : decode cX3_isStone 5 = .ok (.aload_n 0, 1) := by decide +kernel
theorem dX3_isStone_6 : decode cX3_isStone 6 = .ok (.getfield 33, 3) := by decide +kernel
theorem dX3_isStone_9 : decode cX3_isStone 9 = .ok (.if_icmp .ge 7, 3) := by decide +kernel
theorem dX3_isStone_12 : decode cX3_isStone 12 = .ok (.iconst 1, 1) := by decide +kernel
theorem dX3_isStone_13 : decode cX3_isStone 13 = .ok (.goto 4, 3) := by decide +kernel
theorem dX3_isStone_16 : decode cX3_isStone 16 = .ok (.iconst 0, 1) := by decide +kernel
theorem dX3_isStone_17 : decode cX3_isStone 17 = .ok (.ireturn, 1) := by decide +kernel
theorem dX3_forget_0 : decode cX3_forget 0 = .ok (.aload_n 0, 1) := by decide +kernel
theorem dX3_forget_1 : decode cX3_forget 1 = .ok (.iconst (-1), 1) := by decide +kernel
theorem dX3_forget_2 : decode cX3_forget 2 = .ok (.putfield 50, 3) := by decide +kernel
theorem dX3_forget_5 : decode cX3_forget 5 = .ok (.aload_n 0, 1) := by decide +kernel
theorem dX3_forget_6 : decode cX3_forget 6 = .ok (.iconst (-1), 1) := by decide +kernel
theorem dX3_forget_7 : decode cX3_forget 7 = .ok (.putfield 53, 3) := by decide +kernel
theorem dX3_forget_10 : decode cX3_forget 10 = .ok (.return_, 1) := by decide +kernel
set_option maxRecDepth 20000 in
theorem ggX3_addStone_X3_areYears : GoodIn wsX3_addStone wsX3_areYears := goodIn_r _ [12] (by decide +kernel) (by decide +kernel)
set_option maxRecDepth 20000 in
theorem gX3_addStone_X3_areYears : GoodIn wsX3_addStone (va_wsS RX3 56 yX3_areYears wsX3_areYears) := goodIn_app (goodIn_of _ (by decide +kernel)) ggX3_addStone_X3_areYears
set_option maxRecDepth 20000 in
theorem ggX3_addStone_X3_isName : GoodIn wsX3_addStone wsX3_isName := goodIn_r _ [15, 16, 17, 11, 18] (by decide +kernel) (by decide +kernel)
set_option maxRecDepth 20000 in
theorem gX3_addStone_X3_isName : GoodIn wsX3_addStone (va_wsS RX3 60 yX3_isName wsX3_isName) := goodIn_app (goodIn_of _ (by decide +kernel)) ggX3_addStone_X3_isName
set_option maxRecDepth 20000 in
theorem ggX3_addStone_X4_isTown : GoodIn wsX3_addStone wsX4_isTown := goodIn_r _ [21] (by decide +kernel) (by decide +kernel)
set_option maxRecDepth 20000 in
theorem gX3_addStone_X4_isTown_n64 : GoodIn wsX3_addStone (wsX4_isTown) := ggX3_addStone_X4_isTown
set_option maxRecDepth 20000 in
theorem ggX3_addStone_X3_forget : GoodIn wsX3_addStone wsX3_forget := goodIn_r _ [25, 26, 27, 28, 29, 30, 31, 32, 33, 34, 35, 36, 37, 38, 39, 40, 41] (by decide +kernel) (by decide +kernel)
set_option maxRecDepth 20000 in
theorem gX3_addStone_X3_forget : GoodIn wsX3_addStone (wsV RX3 67 RX3 yX3_forget wsX3_forget) := goodIn_app (goodIn_of _ (by decide +kernel)) ggX3_addStone_X3_forget
theorem dX3_addStone_0 : decode cX3_addStone 0 = .ok (.iload_n 1, 1) := by decide +kernel
theorem dX3_addStone_1 : decode cX3_addStone 1 = .ok (.ifCond .lt 55, 3) := by decide +kernel
theorem dX3_addStone_4 : decode cX3_addStone 4 = .ok (.iload_n 1, 1) := by decide +kernel
theorem dX3_addStone_5 : decode cX3_addStone 5 = .ok (.iconst 4, 1) := by decide +kernel
theorem dX3_addStone_6 : decode cX3_addStone 6 = .ok (.if_icmp .ge 50, 3) := by decide +kernel
theorem dX3_addStone_9 : decode cX3_addStone 9 = .ok (.iload_n 2, 1) := by decide +kernel
theorem dX3_addStone_10 : decode cX3_addStone 10 = .ok (.iload_n 3, 1) := by decide +kernel
theorem dX3_addStone_11 : decode cX3_addStone 11 = .ok (.invokestatic 56, 3) := by decide +kernel
theorem dX3_addStone_14 : decode cX3_addStone 14 = .ok (.ifCond .eq 42, 3) := by decide +kernel
theorem dX3_addStone_17 : decode cX3_addStone 17 = .ok (.iload 4, 2) := by decide +kernel
theorem dX3_addStone_19 : decode cX3_addStone 19 = .ok (.invokestatic 60, 3) := by decide +kernel
theorem dX3_addStone_22 : decode cX3_addStone 22 = .ok (.ifCond .eq 34, 3) := by decide +kernel
theorem dX3_addStone_25 : decode cX3_addStone 25 = .ok (.iload 5, 2) := by decide +kernel
theorem dX3_addStone_27 : decode cX3_addStone 27 = .ok (.invokestatic 60, 3) := by decide +kernel
theorem dX3_addStone_30 : decode cX3_addStone 30 = .ok (.ifCond .eq 26, 3) := by decide +kernel
theorem dX3_addStone_33 : decode cX3_addStone 33 = .ok (.iload 6, 2) := by decide +kernel
theorem dX3_addStone_35 : decode cX3_addStone 35 = .ok (.iconst (-1), 1) := by decide +kernel
theorem dX3_addStone_36 : decode cX3_addStone 36 = .ok (.if_icmp .eq 11, 3) := by decide +kernel
theorem dX3_addStone_39 : decode cX3_addStone 39 = .ok (.iload 6, 2) := by decide +kernel
theorem dX3_addStone_41 : decode cX3_addStone 41 = .ok (.invokestatic 64, 3) := by decide +kernel
theorem dX3_addStone_44 : decode cX3_addStone 44 = .ok (.ifCond .eq 12, 3) := by decide +kernel
theorem dX3_addStone_47 : decode cX3_addStone 47 = .ok (.aload_n 0, 1) := by decide +kernel
theorem dX3_addStone_48 : decode cX3_addStone 48 = .ok (.getfield 33, 3) := by decide +kernel
theorem dX3_addStone_51 : decode cX3_addStone 51 = .ok (.bipush 6, 2) := by decide +kernel
theorem dX3_addStone_53 : decode cX3_addStone 53 = .ok (.if_icmp .lt 5, 3) := by decide +kernel
theorem dX3_addStone_56 : decode cX3_addStone 56 = .ok (.iconst (-1), 1) := by decide +kernel
theorem dX3_addStone_57 : decode cX3_addStone 57 = .ok (.ireturn, 1) := by decide +kernel
theorem dX3_addStone_58 : decode cX3_addStone 58 = .ok (.aload_n 0, 1) := by decide +kernel
theorem dX3_addStone_59 : decode cX3_addStone 59 = .ok (.getfield 11, 3) := by decide +kernel
theorem dX3_addStone_62 : decode cX3_addStone 62 = .ok (.aload_n 0, 1) := by decide +kernel
theorem dX3_addStone_63 : decode cX3_addStone 63 = .ok (.getfield 33, 3) := by decide +kernel
theorem dX3_addStone_66 : decode cX3_addStone 66 = .ok (.iload_n 1, 1) := by decide +kernel
theorem dX3_addStone_67 : decode cX3_addStone 67 = .ok (.iastore, 1) := by decide +kernel
theorem dX3_addStone_68 : decode cX3_addStone 68 = .ok (.aload_n 0, 1) := by decide +kernel
theorem dX3_addStone_69 : decode cX3_addStone 69 = .ok (.getfield 15, 3) := by decide +kernel
theorem dX3_addStone_72 : decode cX3_addStone 72 = .ok (.aload_n 0, 1) := by decide +kernel
theorem dX3_addStone_73 : decode cX3_addStone 73 = .ok (.getfield 33, 3) := by decide +kernel
theorem dX3_addStone_76 : decode cX3_addStone 76 = .ok (.iload_n 2, 1) := by decide +kernel
theorem dX3_addStone_77 : decode cX3_addStone 77 = .ok (.iastore, 1) := by decide +kernel
theorem dX3_addStone_78 : decode cX3_addStone 78 = .ok (.aload_n 0, 1) := by decide +kernel
theorem dX3_addStone_79 : decode cX3_addStone 79 = .ok (.getfield 18, 3) := by decide +kernel
theorem dX3_addStone_82 : decode cX3_addStone 82 = .ok (.aload_n 0, 1) := by decide +kernel
theorem dX3_addStone_83 : decode cX3_addStone 83 = .ok (.getfield 33, 3) := by decide +kernel
theorem dX3_addStone_86 : decode cX3_addStone 86 = .ok (.iload_n 3, 1) := by decide +kernel
theorem dX3_addStone_87 : decode cX3_addStone 87 = .ok (.iastore, 1) := by decide +kernel
theorem dX3_addStone_88 : decode cX3_addStone 88 = .ok (.aload_n 0, 1) := by decide +kernel
theorem dX3_addStone_89 : decode cX3_addStone 89 = .ok (.getfield 21, 3) := by decide +kernel
theorem dX3_addStone_92 : decode cX3_addStone 92 = .ok (.aload_n 0, 1) := by decide +kernel
theorem dX3_addStone_93 : decode cX3_addStone 93 = .ok (.getfield 33, 3) := by decide +kernel
theorem dX3_addStone_96 : decode cX3_addStone 96 = .ok (.iload 4, 2) := by decide +kernel
theorem dX3_addStone_98 : decode cX3_addStone 98 = .ok (.iastore, 1) := by decide +kernel
theorem dX3_addStone_99 : decode cX3_addStone 99 = .ok (.aload_n 0, 1) := by decide +kernel
theorem dX3_addStone_100 : decode cX3_addStone 100 = .ok (.getfield 24, 3) := by decide +kernel
theorem dX3_addStone_103 : decode cX3_addStone 103 = .ok (.aload_n 0, 1) := by decide +kernel
theorem dX3_addStone_104 : decode cX3_addStone 104 = .ok (.getfield 33, 3) := by decide +kernel
theorem dX3_addStone_107 : decode cX3_addStone 107 = .ok (.iload 5, 2) := by decide +kernel
theorem dX3_addStone_109 : decode cX3_addStone 109 = .ok (.iastore, 1) := by decide +kernel
theorem dX3_addStone_110 : decode cX3_addStone 110 = .ok (.aload_n 0, 1) := by decide +kernel
theorem dX3_addStone_111 : decode cX3_addStone 111 = .ok (.getfield 27, 3) := by decide +kernel
theorem dX3_addStone_114 : decode cX3_addStone 114 = .ok (.aload_n 0, 1) := by decide +kernel
theorem dX3_addStone_115 : decode cX3_addStone 115 = .ok (.getfield 33, 3) := by decide +kernel
theorem dX3_addStone_118 : decode cX3_addStone 118 = .ok (.iload 6, 2) := by decide +kernel
theorem dX3_addStone_120 : decode cX3_addStone 120 = .ok (.iastore, 1) := by decide +kernel
theorem dX3_addStone_121 : decode cX3_addStone 121 = .ok (.aload_n 0, 1) := by decide +kernel
theorem dX3_addStone_122 : decode cX3_addStone 122 = .ok (.getfield 30, 3) := by decide +kernel
theorem dX3_addStone_125 : decode cX3_addStone 125 = .ok (.aload_n 0, 1) := by decide +kernel
theorem dX3_addStone_126 : decode cX3_addStone 126 = .ok (.getfield 33, 3) := by decide +kernel
theorem dX3_addStone_129 : decode cX3_addStone 129 = .ok (.iconst 0, 1) := by decide +kernel
theorem dX3_addStone_130 : decode cX3_addStone 130 = .ok (.iastore, 1) := by decide +kernel
theorem dX3_addStone_131 : decode cX3_addStone 131 = .ok (.aload_n 0, 1) := by decide +kernel
theorem dX3_addStone_132 : decode cX3_addStone 132 = .ok (.invokevirtual 67, 3) := by decide +kernel
theorem dX3_addStone_135 : decode cX3_addStone 135 = .ok (.aload_n 0, 1) := by decide +kernel
theorem dX3_addStone_136 : decode cX3_addStone 136 = .ok (.dup, 1) := by decide +kernel
theorem dX3_addStone_137 : decode cX3_addStone 137 = .ok (.getfield 33, 3) := by decide +kernel
theorem dX3_addStone_140 : decode cX3_addStone 140 = .ok (.dup_x1, 1) := by decide +kernel
theorem dX3_addStone_141 : decode cX3_addStone 141 = .ok (.iconst 1, 1) := by decide +kernel
theorem dX3_addStone_142 : decode cX3_addStone 142 = .ok (.iadd, 1) := by decide +kernel
theorem dX3_addStone_143 : decode cX3_addStone 143 = .ok (.putfield 33, 3) := by decide +kernel
theorem dX3_addStone_146 : decode cX3_addStone 146 = .ok (.ireturn, 1) := by decide +kernel
theorem dX3_areYears_0 : decode cX3_areYears 0 = .ok (.iload_n 0, 1) := by decide +kernel
theorem dX3_areYears_1 : decode cX3_areYears 1 = .ok (.ifCond .lt 25, 3) := by decide +kernel
theorem dX3_areYears_4 : decode cX3_areYears 4 = .ok (.iload_n 1, 1) := by decide +kernel
theorem dX3_areYears_5 : decode cX3_areYears 5 = .ok (.bipush 40, 2) := by decide +kernel
theorem dX3_areYears_7 : decode cX3_areYears 7 = .ok (.if_icmp .gt 19, 3) := by decide +kernel
theorem dX3_areYears_10 : decode cX3_areYears 10 = .ok (.iload_n 1, 1) := by decide +kernel
theorem dX3_areYears_11 : decode cX3_areYears 11 = .ok (.iload_n 0, 1) := by decide +kernel
theorem dX3_areYears_12 : decode cX3_areYears 12 = .ok (.if_icmp .lt 14, 3) := by decide +kernel
theorem dX3_areYears_15 : decode cX3_areYears 15 = .ok (.iload_n 1, 1) := by decide +kernel
theorem dX3_areYears_16 : decode cX3_areYears 16 = .ok (.iload_n 0, 1) := by decide +kernel
theorem dX3_areYears_17 : decode cX3_areYears 17 = .ok (.isub, 1) := by decide +kernel
theorem dX3_areYears_18 : decode cX3_areYears 18 = .ok (.iconst 5, 1) := by decide +kernel
theorem dX3_areYears_19 : decode cX3_areYears 19 = .ok (.if_icmp .gt 7, 3) := by decide +kernel
theorem dX3_areYears_22 : decode cX3_areYears 22 = .ok (.iconst 1, 1) := by decide +kernel
theorem dX3_areYears_23 : decode cX3_areYears 23 = .ok (.goto 4, 3) := by decide +kernel
theorem dX3_areYears_26 : decode cX3_areYears 26 = .ok (.iconst 0, 1) := by decide +kernel
theorem dX3_areYears_27 : decode cX3_areYears 27 = .ok (.ireturn, 1) := by decide +kernel
set_option maxRecDepth 20000 in
theorem ggX3_isName_X3_letterIn : GoodIn wsX3_isName wsX3_letterIn := goodIn_r _ [4] (by decide +kernel) (by decide +kernel)
set_option maxRecDepth 20000 in
theorem gX3_isName_X3_letterIn : GoodIn wsX3_isName (va_wsS RX3 70 yX3_letterIn wsX3_letterIn) := goodIn_app (goodIn_of _ (by decide +kernel)) ggX3_isName_X3_letterIn
theorem dX3_isName_0 : decode cX3_isName 0 = .ok (.iconst 0, 1) := by decide +kernel
theorem dX3_isName_1 : decode cX3_isName 1 = .ok (.istore_n 1, 1) := by decide +kernel
theorem dX3_isName_2 : decode cX3_isName 2 = .ok (.iload_n 1, 1) := by decide +kernel
theorem dX3_isName_3 : decode cX3_isName 3 = .ok (.iconst 4, 1) := by decide +kernel
theorem dX3_isName_4 : decode cX3_isName 4 = .ok (.if_icmp .ge 21, 3) := by decide +kernel
theorem dX3_isName_7 : decode cX3_isName 7 = .ok (.iload_n 0, 1) := by decide +kernel
theorem dX3_isName_8 : decode cX3_isName 8 = .ok (.iload_n 1, 1) := by decide +kernel
theorem dX3_isName_9 : decode cX3_isName 9 = .ok (.invokestatic 70, 3) := by decide +kernel
theorem dX3_isName_12 : decode cX3_isName 12 = .ok (.bipush 26, 2) := by decide +kernel
theorem dX3_isName_14 : decode cX3_isName 14 = .ok (.if_icmp .le 5, 3) := by decide +kernel
theorem dX3_isName_17 : decode cX3_isName 17 = .ok (.iconst 0, 1) := by decide +kernel
theorem dX3_isName_18 : decode cX3_isName 18 = .ok (.ireturn, 1) := by decide +kernel
theorem dX3_isName_19 : decode cX3_isName 19 = .ok (.iinc 1 1, 3) := by decide +kernel
theorem dX3_isName_22 : decode cX3_isName 22 = .ok (.goto (-20), 3) := by decide +kernel
theorem dX3_isName_25 : decode cX3_isName 25 = .ok (.iconst 1, 1) := by decide +kernel
theorem dX3_isName_26 : decode cX3_isName 26 = .ok (.ireturn, 1) := by decide +kernel
theorem dX3_letterIn_0 : decode cX3_letterIn 0 = .ok (.iload_n 0, 1) := by decide +kernel
theorem dX3_letterIn_1 : decode cX3_letterIn 1 = .ok (.bipush 24, 2) := by decide +kernel
theorem dX3_letterIn_3 : decode cX3_letterIn 3 = .ok (.bipush 8, 2) := by decide +kernel
theorem dX3_letterIn_5 : decode cX3_letterIn 5 = .ok (.iload_n 1, 1) := by decide +kernel
theorem dX3_letterIn_6 : decode cX3_letterIn 6 = .ok (.imul, 1) := by decide +kernel
theorem dX3_letterIn_7 : decode cX3_letterIn 7 = .ok (.isub, 1) := by decide +kernel
theorem dX3_letterIn_8 : decode cX3_letterIn 8 = .ok (.iushr, 1) := by decide +kernel
theorem dX3_letterIn_9 : decode cX3_letterIn 9 = .ok (.sipush 255, 3) := by decide +kernel
theorem dX3_letterIn_12 : decode cX3_letterIn 12 = .ok (.iand, 1) := by decide +kernel
theorem dX3_letterIn_13 : decode cX3_letterIn 13 = .ok (.ireturn, 1) := by decide +kernel
set_option maxRecDepth 20000 in
theorem ggX3_letterOf_X3_letterIn : GoodIn wsX3_letterOf wsX3_letterIn := goodIn_r _ [6] (by decide +kernel) (by decide +kernel)
set_option maxRecDepth 20000 in
theorem gX3_letterOf_X3_letterIn : GoodIn wsX3_letterOf (va_wsS RX3 70 yX3_letterIn wsX3_letterIn) := goodIn_app (goodIn_of _ (by decide +kernel)) ggX3_letterOf_X3_letterIn
theorem dX3_letterOf_0 : decode cX3_letterOf 0 = .ok (.iconst 4, 1) := by decide +kernel
theorem dX3_letterOf_1 : decode cX3_letterOf 1 = .ok (.istore_n 3, 1) := by decide +kernel
theorem dX3_letterOf_2 : decode cX3_letterOf 2 = .ok (.iload_n 2, 1) := by decide +kernel
theorem dX3_letterOf_3 : decode cX3_letterOf 3 = .ok (.iload_n 3, 1) := by decide +kernel
theorem dX3_letterOf_4 : decode cX3_letterOf 4 = .ok (.if_icmp .ge 16, 3) := by decide +kernel
theorem dX3_letterOf_7 : decode cX3_letterOf 7 = .ok (.aload_n 0, 1) := by decide +kernel
theorem dX3_letterOf_8 : decode cX3_letterOf 8 = .ok (.getfield 21, 3) := by decide +kernel
theorem dX3_letterOf_11 : decode cX3_letterOf 11 = .ok (.iload_n 1, 1) := by decide +kernel
theorem dX3_letterOf_12 : decode cX3_letterOf 12 = .ok (.iaload, 1) := by decide +kernel
theorem dX3_letterOf_13 : decode cX3_letterOf 13 = .ok (.iload_n 2, 1) := by decide +kernel
theorem dX3_letterOf_14 : decode cX3_letterOf 14 = .ok (.invokestatic 70, 3) := by decide +kernel
theorem dX3_letterOf_17 : decode cX3_letterOf 17 = .ok (.goto 15, 3) := by decide +kernel
theorem dX3_letterOf_20 : decode cX3_letterOf 20 = .ok (.aload_n 0, 1) := by decide +kernel
theorem dX3_letterOf_21 : decode cX3_letterOf 21 = .ok (.getfield 24, 3) := by decide +kernel
theorem dX3_letterOf_24 : decode cX3_letterOf 24 = .ok (.iload_n 1, 1) := by decide +kernel
theorem dX3_letterOf_25 : decode cX3_letterOf 25 = .ok (.iaload, 1) := by decide +kernel
theorem dX3_letterOf_26 : decode cX3_letterOf 26 = .ok (.iload_n 2, 1) := by decide +kernel
theorem dX3_letterOf_27 : decode cX3_letterOf 27 = .ok (.iload_n 3, 1) := by decide +kernel
theorem dX3_letterOf_28 : decode cX3_letterOf 28 = .ok (.isub, 1) := by decide +kernel
theorem dX3_letterOf_29 : decode cX3_letterOf 29 = .ok (.invokestatic 70, 3) := by decide +kernel
theorem dX3_letterOf_32 : decode cX3_letterOf 32 = .ok (.ireturn, 1) := by decide +kernel
set_option maxRecDepth 20000 in
theorem ggX3_tellLetter_X3_isStone : GoodIn wsX3_tellLetter wsX3_isStone := goodIn_r _ [5, 6, 16, 17, 18, 19, 20, 21, 22, 23, 24, 25, 26, 27, 28, 29] (by decide +kernel) (by decide +kernel)
set_option maxRecDepth 20000 in
theorem gX3_tellLetter_X3_isStone : GoodIn wsX3_tellLetter (wsV RX3 74 RX3 yX3_isStone wsX3_isStone) := goodIn_app (goodIn_of _ (by decide +kernel)) ggX3_tellLetter_X3_isStone
set_option maxRecDepth 20000 in
theorem ggX3_tellLetter_X3_letterOf : GoodIn wsX3_tellLetter wsX3_letterOf := goodIn_r _ [10, 11, 12, 13, 14, 4, 15, 16, 17, 18, 19, 20, 21, 22, 23, 24, 25, 26, 27, 28, 29] (by decide +kernel) (by decide +kernel)
set_option maxRecDepth 20000 in
theorem gX3_tellLetter_X3_letterOf : GoodIn wsX3_tellLetter (wsV RX3 77 RX3 yX3_letterOf wsX3_letterOf) := goodIn_app (goodIn_of _ (by decide +kernel)) ggX3_tellLetter_X3_letterOf
theorem dX3_tellLetter_0 : decode cX3_tellLetter 0 = .ok (.aload_n 0, 1) := by decide +kernel
theorem dX3_tellLetter_1 : decode cX3_tellLetter 1 = .ok (.iload_n 1, 1) := by decide +kernel
theorem dX3_tellLetter_2 : decode cX3_tellLetter 2 = .ok (.invokevirtual 74, 3) := by decide +kernel
theorem dX3_tellLetter_5 : decode cX3_tellLetter 5 = .ok (.ifCond .eq 22, 3) := by decide +kernel
theorem dX3_tellLetter_8 : decode cX3_tellLetter 8 = .ok (.iload_n 2, 1) := by decide +kernel
theorem dX3_tellLetter_9 : decode cX3_tellLetter 9 = .ok (.ifCond .lt 18, 3) := by decide +kernel
theorem dX3_tellLetter_12 : decode cX3_tellLetter 12 = .ok (.iload_n 2, 1) := by decide +kernel
theorem dX3_tellLetter_13 : decode cX3_tellLetter 13 = .ok (.bipush 8, 2) := by decide +kernel
theorem dX3_tellLetter_15 : decode cX3_tellLetter 15 = .ok (.if_icmp .ge 12, 3) := by decide +kernel
theorem dX3_tellLetter_18 : decode cX3_tellLetter 18 = .ok (.aload_n 0, 1) := by decide +kernel
theorem dX3_tellLetter_19 : decode cX3_tellLetter 19 = .ok (.iload_n 1, 1) := by decide +kernel
theorem dX3_tellLetter_20 : decode cX3_tellLetter 20 = .ok (.iload_n 2, 1) := by decide +kernel
theorem dX3_tellLetter_21 : decode cX3_tellLetter 21 = .ok (.invokevirtual 77, 3) := by decide +kernel
theorem dX3_tellLetter_24 : decode cX3_tellLetter 24 = .ok (.goto 4, 3) := by decide +kernel
theorem dX3_tellLetter_27 : decode cX3_tellLetter 27 = .ok (.iconst (-1), 1) := by decide +kernel
theorem dX3_tellLetter_28 : decode cX3_tellLetter 28 = .ok (.ireturn, 1) := by decide +kernel
set_option maxRecDepth 20000 in
theorem ggX3_setJoined_X3_isStone : GoodIn wsX3_setJoined wsX3_isStone := goodIn_r _ [6, 7, 14, 15, 16, 17, 18, 19, 20, 21, 22, 23, 24, 25, 26, 27] (by decide +kernel) (by decide +kernel)
set_option maxRecDepth 20000 in
theorem gX3_setJoined_X3_isStone : GoodIn wsX3_setJoined (wsV RX3 74 RX3 yX3_isStone wsX3_isStone) := goodIn_app (goodIn_of _ (by decide +kernel)) ggX3_setJoined_X3_isStone
set_option maxRecDepth 20000 in
theorem ggX3_setJoined_X3_forget : GoodIn wsX3_setJoined wsX3_forget := goodIn_r _ [11, 12, 13, 14, 15, 16, 17, 18, 19, 20, 21, 22, 23, 24, 25, 26, 27] (by decide +kernel) (by decide +kernel)
set_option maxRecDepth 20000 in
theorem gX3_setJoined_X3_forget : GoodIn wsX3_setJoined (wsV RX3 67 RX3 yX3_forget wsX3_forget) := goodIn_app (goodIn_of _ (by decide +kernel)) ggX3_setJoined_X3_forget
theorem dX3_setJoined_0 : decode cX3_setJoined 0 = .ok (.aload_n 0, 1) := by decide +kernel
theorem dX3_setJoined_1 : decode cX3_setJoined 1 = .ok (.iload_n 1, 1) := by decide +kernel
theorem dX3_setJoined_2 : decode cX3_setJoined 2 = .ok (.invokevirtual 74, 3) := by decide +kernel
theorem dX3_setJoined_5 : decode cX3_setJoined 5 = .ok (.ifCond .eq 16, 3) := by decide +kernel
theorem dX3_setJoined_8 : decode cX3_setJoined 8 = .ok (.aload_n 0, 1) := by decide +kernel
theorem dX3_setJoined_9 : decode cX3_setJoined 9 = .ok (.iload_n 2, 1) := by decide +kernel
theorem dX3_setJoined_10 : decode cX3_setJoined 10 = .ok (.invokevirtual 74, 3) := by decide +kernel
theorem dX3_setJoined_13 : decode cX3_setJoined 13 = .ok (.ifCond .eq 8, 3) := by decide +kernel
theorem dX3_setJoined_16 : decode cX3_setJoined 16 = .ok (.iload_n 1, 1) := by decide +kernel
theorem dX3_setJoined_17 : decode cX3_setJoined 17 = .ok (.iload_n 2, 1) := by decide +kernel
theorem dX3_setJoined_18 : decode cX3_setJoined 18 = .ok (.if_icmp .ne 5, 3) := by decide +kernel
theorem dX3_setJoined_21 : decode cX3_setJoined 21 = .ok (.iconst 0, 1) := by decide +kernel
theorem dX3_setJoined_22 : decode cX3_setJoined 22 = .ok (.ireturn, 1) := by decide +kernel
theorem dX3_setJoined_23 : decode cX3_setJoined 23 = .ok (.aload_n 0, 1) := by decide +kernel
theorem dX3_setJoined_24 : decode cX3_setJoined 24 = .ok (.getfield 30, 3) := by decide +kernel
theorem dX3_setJoined_27 : decode cX3_setJoined 27 = .ok (.iload_n 1, 1) := by decide +kernel
theorem dX3_setJoined_28 : decode cX3_setJoined 28 = .ok (.iload_n 3, 1) := by decide +kernel
theorem dX3_setJoined_29 : decode cX3_setJoined 29 = .ok (.ifCond .eq 16, 3) := by decide +kernel
theorem dX3_setJoined_32 : decode cX3_setJoined 32 = .ok (.aload_n 0, 1) := by decide +kernel
theorem dX3_setJoined_33 : decode cX3_setJoined 33 = .ok (.getfield 30, 3) := by decide +kernel
theorem dX3_setJoined_36 : decode cX3_setJoined 36 = .ok (.iload_n 1, 1) := by decide +kernel
theorem dX3_setJoined_37 : decode cX3_setJoined 37 = .ok (.iaload, 1) := by decide +kernel
theorem dX3_setJoined_38 : decode cX3_setJoined 38 = .ok (.iconst 1, 1) := by decide +kernel
theorem dX3_setJoined_39 : decode cX3_setJoined 39 = .ok (.iload_n 2, 1) := by decide +kernel
theorem dX3_setJoined_40 : decode cX3_setJoined 40 = .ok (.ishl, 1) := by decide +kernel
theorem dX3_setJoined_41 : decode cX3_setJoined 41 = .ok (.ior, 1) := by decide +kernel
theorem dX3_setJoined_42 : decode cX3_setJoined 42 = .ok (.goto 15, 3) := by decide +kernel
theorem dX3_setJoined_45 : decode cX3_setJoined 45 = .ok (.aload_n 0, 1) := by decide +kernel
theorem dX3_setJoined_46 : decode cX3_setJoined 46 = .ok (.getfield 30, 3) := by decide +kernel
theorem dX3_setJoined_49 : decode cX3_setJoined 49 = .ok (.iload_n 1, 1) := by decide +kernel
theorem dX3_setJoined_50 : decode cX3_setJoined 50 = .ok (.iaload, 1) := by decide +kernel
theorem dX3_setJoined_51 : decode cX3_setJoined 51 = .ok (.iconst 1, 1) := by decide +kernel
theorem dX3_setJoined_52 : decode cX3_setJoined 52 = .ok (.iload_n 2, 1) := by decide +kernel
theorem dX3_setJoined_53 : decode cX3_setJoined 53 = .ok (.ishl, 1) := by decide +kernel
theorem dX3_setJoined_54 : decode cX3_setJoined 54 = .ok (.iconst (-1), 1) := by decide +kernel
theorem dX3_setJoined_55 : decode cX3_setJoined 55 = .ok (.ixor, 1) := by decide +kernel
theorem dX3_setJoined_56 : decode cX3_setJoined 56 = .ok (.iand, 1) := by decide +kernel
theorem dX3_setJoined_57 : decode cX3_setJoined 57 = .ok (.iastore, 1) := by decide +kernel
theorem dX3_setJoined_58 : decode cX3_setJoined 58 = .ok (.aload_n 0, 1) := by decide +kernel
theorem dX3_setJoined_59 : decode cX3_setJoined 59 = .ok (.getfield 30, 3) := by decide +kernel
theorem dX3_setJoined_62 : decode cX3_setJoined 62 = .ok (.iload_n 2, 1) := by decide +kernel
theorem dX3_setJoined_63 : decode cX3_setJoined 63 = .ok (.iload_n 3, 1) := by decide +kernel
theorem dX3_setJoined_64 : decode cX3_setJoined 64 = .ok (.ifCond .eq 16, 3) := by decide +kernel
theorem dX3_setJoined_67 : decode cX3_setJoined 67 = .ok (.aload_n 0, 1) := by decide +kernel
theorem dX3_setJoined_68 : decode cX3_setJoined 68 = .ok (.getfield 30, 3) := by decide +kernel
theorem dX3_setJoined_71 : decode cX3_setJoined 71 = .ok (.iload_n 2, 1) := by decide +kernel
theorem dX3_setJoined_72 : decode cX3_setJoined 72 = .ok (.iaload, 1) := by decide +kernel
theorem dX3_setJoined_73 : decode cX3_setJoined 73 = .ok (.iconst 1, 1) := by decide +kernel
theorem dX3_setJoined_74 : decode cX3_setJoined 74 = .ok (.iload_n 1, 1) := by decide +kernel
theorem dX3_setJoined_75 : decode cX3_setJoined 75 = .ok (.ishl, 1) := by decide +kernel
theorem dX3_setJoined_76 : decode cX3_setJoined 76 = .ok (.ior, 1) := by decide +kernel
theorem dX3_setJoined_77 : decode cX3_setJoined 77 = .ok (.goto 15, 3) := by decide +kernel
theorem dX3_setJoined_80 : decode cX3_setJoined 80 = .ok (.aload_n 0, 1) := by decide +kernel
theorem dX3_setJoined_81 : decode cX3_setJoined 81 = .ok (.getfield 30, 3) := by decide +kernel
theorem dX3_setJoined_84 : decode cX3_setJoined 84 = .ok (.iload_n 2, 1) := by decide +kernel
theorem dX3_setJoined_85 : decode cX3_setJoined 85 = .ok (.iaload, 1) := by decide +kernel
theorem dX3_setJoined_86 : decode cX3_setJoined 86 = .ok (.iconst 1, 1) := by decide +kernel
theorem dX3_setJoined_87 : decode cX3_setJoined 87 = .ok (.iload_n 1, 1) := by decide +kernel
theorem dX3_setJoined_88 : decode cX3_setJoined 88 = .ok (.ishl, 1) := by decide +kernel
theorem dX3_setJoined_89 : decode cX3_setJoined 89 = .ok (.iconst (-1), 1) := by decide +kernel
theorem dX3_setJoined_90 : decode cX3_setJoined 90 = .ok (.ixor, 1) := by decide +kernel
theorem dX3_setJoined_91 : decode cX3_setJoined 91 = .ok (.iand, 1) := by decide +kernel
theorem dX3_setJoined_92 : decode cX3_setJoined 92 = .ok (.iastore, 1) := by decide +kernel
theorem dX3_setJoined_93 : decode cX3_setJoined 93 = .ok (.aload_n 0, 1) := by decide +kernel
theorem dX3_setJoined_94 : decode cX3_setJoined 94 = .ok (.invokevirtual 67, 3) := by decide +kernel
theorem dX3_setJoined_97 : decode cX3_setJoined 97 = .ok (.iconst 1, 1) := by decide +kernel
theorem dX3_setJoined_98 : decode cX3_setJoined 98 = .ok (.ireturn, 1) := by decide +kernel
set_option maxRecDepth 20000 in
theorem ggX3_setSpan_X3_forget : GoodIn wsX3_setSpan wsX3_forget := goodIn_r _ [6, 7, 8, 9, 10, 11, 12, 13, 14, 15, 16, 17, 18, 19, 20, 21, 22] (by decide +kernel) (by decide +kernel)
set_option maxRecDepth 20000 in
theorem gX3_setSpan_X3_forget : GoodIn wsX3_setSpan (wsV RX3 67 RX3 yX3_forget wsX3_forget) := goodIn_app (goodIn_of _ (by decide +kernel)) ggX3_setSpan_X3_forget
theorem dX3_setSpan_0 : decode cX3_setSpan 0 = .ok (.iload_n 1, 1) := by decide +kernel
theorem dX3_setSpan_1 : decode cX3_setSpan 1 = .ok (.ifCond .lt 9, 3) := by decide +kernel
theorem dX3_setSpan_4 : decode cX3_setSpan 4 = .ok (.iload_n 1, 1) := by decide +kernel
theorem dX3_setSpan_5 : decode cX3_setSpan 5 = .ok (.bipush 40, 2) := by decide +kernel
theorem dX3_setSpan_7 : decode cX3_setSpan 7 = .ok (.if_icmp .le 5, 3) := by decide +kernel
theorem dX3_setSpan_10 : decode cX3_setSpan 10 = .ok (.iconst (-1), 1) := by decide +kernel
theorem dX3_setSpan_11 : decode cX3_setSpan 11 = .ok (.ireturn, 1) := by decide +kernel
theorem dX3_setSpan_12 : decode cX3_setSpan 12 = .ok (.aload_n 0, 1) := by decide +kernel
theorem dX3_setSpan_13 : decode cX3_setSpan 13 = .ok (.getfield 37, 3) := by decide +kernel
theorem dX3_setSpan_16 : decode cX3_setSpan 16 = .ok (.istore_n 2, 1) := by decide +kernel
theorem dX3_setSpan_17 : decode cX3_setSpan 17 = .ok (.aload_n 0, 1) := by decide +kernel
theorem dX3_setSpan_18 : decode cX3_setSpan 18 = .ok (.iload_n 1, 1) := by decide +kernel
theorem dX3_setSpan_19 : decode cX3_setSpan 19 = .ok (.putfield 37, 3) := by decide +kernel
theorem dX3_setSpan_22 : decode cX3_setSpan 22 = .ok (.aload_n 0, 1) := by decide +kernel
theorem dX3_setSpan_23 : decode cX3_setSpan 23 = .ok (.invokevirtual 67, 3) := by decide +kernel
theorem dX3_setSpan_26 : decode cX3_setSpan 26 = .ok (.iload_n 2, 1) := by decide +kernel
theorem dX3_setSpan_27 : decode cX3_setSpan 27 = .ok (.ireturn, 1) := by decide +kernel
set_option maxRecDepth 20000 in
theorem ggX3_breakUp_X3_isStone : GoodIn wsX3_breakUp wsX3_isStone := goodIn_r _ [13, 1, 23, 24, 25, 26, 27, 28, 29, 30, 31, 32, 33, 34, 35, 36] (by decide +kernel) (by decide +kernel)
set_option maxRecDepth 20000 in
theorem gX3_breakUp_X3_isStone : GoodIn wsX3_breakUp (wsV RX3 74 RX3 yX3_isStone wsX3_isStone) := goodIn_app (goodIn_of _ (by decide +kernel)) ggX3_breakUp_X3_isStone
set_option maxRecDepth 20000 in
theorem ggX3_breakUp_X3_withoutBit : GoodIn wsX3_breakUp wsX3_withoutBit := goodIn_r _ [16] (by decide +kernel) (by decide +kernel)
set_option maxRecDepth 20000 in
theorem gX3_breakUp_X3_withoutBit : GoodIn wsX3_breakUp (va_wsS RX3 80 yX3_withoutBit wsX3_withoutBit) := goodIn_app (goodIn_of _ (by decide +kernel)) ggX3_breakUp_X3_withoutBit
set_option maxRecDepth 20000 in
theorem ggX3_breakUp_X3_forget : GoodIn wsX3_breakUp wsX3_forget := goodIn_r _ [20, 21, 22, 23, 24, 25, 26, 27, 28, 29, 30, 31, 32, 33, 34, 35, 36] (by decide +kernel) (by decide +kernel)
set_option maxRecDepth 20000 in
theorem gX3_breakUp_X3_forget : GoodIn wsX3_breakUp (wsV RX3 67 RX3 yX3_forget wsX3_forget) := goodIn_app (goodIn_of _ (by decide +kernel)) ggX3_breakUp_X3_forget
theorem dX3_breakUp_0 : decode cX3_breakUp 0 = .ok (.aload_n 0, 1) := by decide +kernel
theorem dX3_breakUp_1 : decode cX3_breakUp 1 = .ok (.iload_n 1, 1) := by decide +kernel
theorem dX3_breakUp_2 : decode cX3_breakUp 2 = .ok (.invokevirtual 74, 3) := by decide +kernel
theorem dX3_breakUp_5 : decode cX3_breakUp 5 = .ok (.ifCond .ne 5, 3) := by decide +kernel
theorem dX3_breakUp_8 : decode cX3_breakUp 8 = .ok (.iconst (-1), 1) := by decide +kernel
theorem dX3_breakUp_9 : decode cX3_breakUp 9 = .ok (.ireturn, 1) := by decide +kernel
theorem dX3_breakUp_10 : decode cX3_breakUp 10 = .ok (.iload_n 1, 1) := by decide +kernel
theorem dX3_breakUp_11 : decode cX3_breakUp 11 = .ok (.istore_n 2, 1) := by decide +kernel
theorem dX3_breakUp_12 : decode cX3_breakUp 12 = .ok (.iload_n 2, 1) := by decide +kernel
theorem dX3_breakUp_13 : decode cX3_breakUp 13 = .ok (.iconst 1, 1) := by decide +kernel
theorem dX3_breakUp_14 : decode cX3_breakUp 14 = .ok (.iadd, 1) := by decide +kernel
theorem dX3_breakUp_15 : decode cX3_breakUp 15 = .ok (.aload_n 0, 1) := by decide +kernel
theorem dX3_breakUp_16 : decode cX3_breakUp 16 = .ok (.getfield 33, 3) := by decide +kernel
theorem dX3_breakUp_19 : decode cX3_breakUp 19 = .ok (.if_icmp .ge 107, 3) := by decide +kernel
theorem dX3_breakUp_22 : decode cX3_breakUp 22 = .ok (.aload_n 0, 1) := by decide +kernel
theorem dX3_breakUp_23 : decode cX3_breakUp 23 = .ok (.getfield 11, 3) := by decide +kernel
theorem dX3_breakUp_26 : decode cX3_breakUp 26 = .ok (.iload_n 2, 1) := by decide +kernel
theorem dX3_breakUp_27 : decode cX3_breakUp 27 = .ok (.aload_n 0, 1) := by decide +kernel
theorem dX3_breakUp_28 : decode cX3_breakUp 28 = .ok (.getfield 11, 3) := by decide +kernel
theorem dX3_breakUp_31 : decode cX3_breakUp 31 = .ok (.iload_n 2, 1) := by decide +kernel
theorem dX3_breakUp_32 : decode cX3_breakUp 32 = .ok (.iconst 1, 1) := by decide +kernel
theorem dX3_breakUp_33 : decode cX3_breakUp 33 = .ok (.iadd, 1) := by decide +kernel
theorem dX3_breakUp_34 : decode cX3_breakUp 34 = .ok (.iaload, 1) := by decide +kernel
theorem dX3_breakUp_35 : decode cX3_breakUp 35 = .ok (.iastore, 1) := by decide +kernel
theorem dX3_breakUp_36 : decode cX3_breakUp 36 = .ok (.aload_n 0, 1) := by decide +kernel
theorem dX3_breakUp_37 : decode cX3_breakUp 37 = .ok (.getfield 15, 3) := by decide +kernel
theorem dX3_breakUp_40 : decode cX3_breakUp 40 = .ok (.iload_n 2, 1) := by decide +kernel
theorem dX3_breakUp_41 : decode cX3_breakUp 41 = .ok (.aload_n 0, 1) := by decide +kernel
theorem dX3_breakUp_42 : decode cX3_breakUp 42 = .ok (.getfield 15, 3) := by decide +kernel
theorem dX3_breakUp_45 : decode cX3_breakUp 45 = .ok (.iload_n 2, 1) := by decide +kernel
theorem dX3_breakUp_46 : decode cX3_breakUp 46 = .ok (.iconst 1, 1) := by decide +kernel
theorem dX3_breakUp_47 : decode cX3_breakUp 47 = .ok (.iadd, 1) := by decide +kernel
theorem dX3_breakUp_48 : decode cX3_breakUp 48 = .ok (.iaload, 1) := by decide +kernel
theorem dX3_breakUp_49 : decode cX3_breakUp 49 = .ok (.iastore, 1) := by decide +kernel
theorem dX3_breakUp_50 : decode cX3_breakUp 50 = .ok (.aload_n 0, 1) := by decide +kernel
theorem dX3_breakUp_51 : decode cX3_breakUp 51 = .ok (.getfield 18, 3) := by decide +kernel
theorem dX3_breakUp_54 : decode cX3_breakUp 54 = .ok (.iload_n 2, 1) := by decide +kernel
theorem dX3_breakUp_55 : decode cX3_breakUp 55 = .ok (.aload_n 0, 1) := by decide +kernel
theorem dX3_breakUp_56 : decode cX3_breakUp 56 = .ok (.getfield 18, 3) := by decide +kernel
theorem dX3_breakUp_59 : decode cX3_breakUp 59 = .ok (.iload_n 2, 1) := by decide +kernel
theorem dX3_breakUp_60 : decode cX3_breakUp 60 = .ok (.iconst 1, 1) := by decide +kernel
theorem dX3_breakUp_61 : decode cX3_breakUp 61 = .ok (.iadd, 1) := by decide +kernel
theorem dX3_breakUp_62 : decode cX3_breakUp 62 = .ok (.iaload, 1) := by decide +kernel
theorem dX3_breakUp_63 : decode cX3_breakUp 63 = .ok (.iastore, 1) := by decide +kernel
theorem dX3_breakUp_64 : decode cX3_breakUp 64 = .ok (.aload_n 0, 1) := by decide +kernel
theorem dX3_breakUp_65 : decode cX3_breakUp 65 = .ok (.getfield 21, 3) := by decide +kernel
theorem dX3_breakUp_68 : decode cX3_breakUp 68 = .ok (.iload_n 2, 1) := by decide +kernel
theorem dX3_breakUp_69 : decode cX3_breakUp 69 = .ok (.aload_n 0, 1) := by decide +kernel
theorem dX3_breakUp_70 : decode cX3_breakUp 70 = .ok (.getfield 21, 3) := by decide +kernel
theorem dX3_breakUp_73 : decode cX3_breakUp 73 = .ok (.iload_n 2, 1) := by decide +kernel
theorem dX3_breakUp_74 : decode cX3_breakUp 74 = .ok (.iconst 1, 1) := by decide +kernel
theorem dX3_breakUp_75 : decode cX3_breakUp 75 = .ok (.iadd, 1) := by decide +kernel
theorem dX3_breakUp_76 : decode cX3_breakUp 76 = .ok (.iaload, 1) := by decide +kernel
theorem dX3_breakUp_77 : decode cX3_breakUp 77 = .ok (.iastore, 1) := by decide +kernel
theorem dX3_breakUp_78 : decode cX3_breakUp 78 = .ok (.aload_n 0, 1) := by decide +kernel
theorem dX3_breakUp_79 : decode cX3_breakUp 79 = .ok (.getfield 24, 3) := by decide +kernel
theorem dX3_breakUp_82 : decode cX3_breakUp 82 = .ok (.iload_n 2, 1) := by decide +kernel
theorem dX3_breakUp_83 : decode cX3_breakUp 83 = .ok (.aload_n 0, 1) := by decide +kernel
theorem dX3_breakUp_84 : decode cX3_breakUp 84 = .ok (.getfield 24, 3) := by decide +kernel
theorem dX3_breakUp_87 : decode cX3_breakUp 87 = .ok (.iload_n 2, 1) := by decide +kernel
theorem dX3_breakUp_88 : decode cX3_breakUp 88 = .ok (.iconst 1, 1) := by decide +kernel
theorem dX3_breakUp_89 : decode cX3_breakUp 89 = .ok (.iadd, 1) := by decide +kernel
theorem dX3_breakUp_90 : decode cX3_breakUp 90 = .ok (.iaload, 1) := by decide +kernel
theorem dX3_breakUp_91 : decode cX3_breakUp 91 = .ok (.iastore, 1) := by decide +kernel
theorem dX3_breakUp_92 : decode cX3_breakUp 92 = .ok (.aload_n 0, 1) := by decide +kernel
theorem dX3_breakUp_93 : decode cX3_breakUp 93 = .ok (.getfield 27, 3) := by decide +kernel
theorem dX3_breakUp_96 : decode cX3_breakUp 96 = .ok (.iload_n 2, 1) := by decide +kernel
theorem dX3_breakUp_97 : decode cX3_breakUp 97 = .ok (.aload_n 0, 1) := by decide +kernel
theorem dX3_breakUp_98 : decode cX3_breakUp 98 = .ok (.getfield 27, 3) := by decide +kernel
theorem dX3_breakUp_101 : decode cX3_breakUp 101 = .ok (.iload_n 2, 1) := by decide +kernel
theorem dX3_breakUp_102 : decode cX3_breakUp 102 = .ok (.iconst 1, 1) := by decide +kernel
theorem dX3_breakUp_103 : decode cX3_breakUp 103 = .ok (.iadd, 1) := by decide +kernel
theorem dX3_breakUp_104 : decode cX3_breakUp 104 = .ok (.iaload, 1) := by decide +kernel
theorem dX3_breakUp_105 : decode cX3_breakUp 105 = .ok (.iastore, 1) := by decide +kernel
theorem dX3_breakUp_106 : decode cX3_breakUp 106 = .ok (.aload_n 0, 1) := by decide +kernel
theorem dX3_breakUp_107 : decode cX3_breakUp 107 = .ok (.getfield 30, 3) := by decide +kernel
theorem dX3_breakUp_110 : decode cX3_breakUp 110 = .ok (.iload_n 2, 1) := by decide +kernel
theorem dX3_breakUp_111 : decode cX3_breakUp 111 = .ok (.aload_n 0, 1) := by decide +kernel
theorem dX3_breakUp_112 : decode cX3_breakUp 112 = .ok (.getfield 30, 3) := by decide +kernel
theorem dX3_breakUp_115 : decode cX3_breakUp 115 = .ok (.iload_n 2, 1) := by decide +kernel
theorem dX3_breakUp_116 : decode cX3_breakUp 116 = .ok (.iconst 1, 1) := by decide +kernel
theorem dX3_breakUp_117 : decode cX3_breakUp 117 = .ok (.iadd, 1) := by decide +kernel
theorem dX3_breakUp_118 : decode cX3_breakUp 118 = .ok (.iaload, 1) := by decide +kernel
theorem dX3_breakUp_119 : decode cX3_breakUp 119 = .ok (.iastore, 1) := by decide +kernel
theorem dX3_breakUp_120 : decode cX3_breakUp 120 = .ok (.iinc 2 1, 3) := by decide +kernel
theorem dX3_breakUp_123 : decode cX3_breakUp 123 = .ok (.goto (-111), 3) := by decide +kernel
theorem dX3_breakUp_126 : decode cX3_breakUp 126 = .ok (.aload_n 0, 1) := by decide +kernel
theorem dX3_breakUp_127 : decode cX3_breakUp 127 = .ok (.dup, 1) := by decide +kernel
theorem dX3_breakUp_128 : decode cX3_breakUp 128 = .ok (.getfield 33, 3) := by decide +kernel
theorem dX3_breakUp_131 : decode cX3_breakUp 131 = .ok (.iconst 1, 1) := by decide +kernel
theorem dX3_breakUp_132 : decode cX3_breakUp 132 = .ok (.isub, 1) := by decide +kernel
theorem dX3_breakUp_133 : decode cX3_breakUp 133 = .ok (.putfield 33, 3) := by decide +kernel
theorem dX3_breakUp_136 : decode cX3_breakUp 136 = .ok (.iconst 0, 1) := by decide +kernel
theorem dX3_breakUp_137 : decode cX3_breakUp 137 = .ok (.istore_n 2, 1) := by decide +kernel
theorem dX3_breakUp_138 : decode cX3_breakUp 138 = .ok (.iload_n 2, 1) := by decide +kernel
theorem dX3_breakUp_139 : decode cX3_breakUp 139 = .ok (.aload_n 0, 1) := by decide +kernel
theorem dX3_breakUp_140 : decode cX3_breakUp 140 = .ok (.getfield 33, 3) := by decide +kernel
theorem dX3_breakUp_143 : decode cX3_breakUp 143 = .ok (.if_icmp .ge 25, 3) := by decide +kernel
theorem dX3_breakUp_146 : decode cX3_breakUp 146 = .ok (.aload_n 0, 1) := by decide +kernel
theorem dX3_breakUp_147 : decode cX3_breakUp 147 = .ok (.getfield 30, 3) := by decide +kernel
theorem dX3_breakUp_150 : decode cX3_breakUp 150 = .ok (.iload_n 2, 1) := by decide +kernel
theorem dX3_breakUp_151 : decode cX3_breakUp 151 = .ok (.aload_n 0, 1) := by decide +kernel
theorem dX3_breakUp_152 : decode cX3_breakUp 152 = .ok (.getfield 30, 3) := by decide +kernel
theorem dX3_breakUp_155 : decode cX3_breakUp 155 = .ok (.iload_n 2, 1) := by decide +kernel
theorem dX3_breakUp_156 : decode cX3_breakUp 156 = .ok (.iaload, 1) := by decide +kernel
theorem dX3_breakUp_157 : decode cX3_breakUp 157 = .ok (.iload_n 1, 1) := by decide +kernel
theorem dX3_breakUp_158 : decode cX3_breakUp 158 = .ok (.invokestatic 80, 3) := by decide +kernel
theorem dX3_breakUp_161 : decode cX3_breakUp 161 = .ok (.iastore, 1) := by decide +kernel
theorem dX3_breakUp_162 : decode cX3_breakUp 162 = .ok (.iinc 2 1, 3) := by decide +kernel
theorem dX3_breakUp_165 : decode cX3_breakUp 165 = .ok (.goto (-27), 3) := by decide +kernel
theorem dX3_breakUp_168 : decode cX3_breakUp 168 = .ok (.aload_n 0, 1) := by decide +kernel
theorem dX3_breakUp_169 : decode cX3_breakUp 169 = .ok (.invokevirtual 67, 3) := by decide +kernel
theorem dX3_breakUp_172 : decode cX3_breakUp 172 = .ok (.aload_n 0, 1) := by decide +kernel
theorem dX3_breakUp_173 : decode cX3_breakUp 173 = .ok (.getfield 33, 3) := by decide +kernel
theorem dX3_breakUp_176 : decode cX3_breakUp 176 = .ok (.ireturn, 1) := by decide +kernel
theorem dX3_withoutBit_0 : decode cX3_withoutBit 0 = .ok (.iconst 1, 1) := by decide +kernel
theorem dX3_withoutBit_1 : decode cX3_withoutBit 1 = .ok (.iload_n 1, 1) := by decide +kernel
theorem dX3_withoutBit_2 : decode cX3_withoutBit 2 = .ok (.ishl, 1) := by decide +kernel
theorem dX3_withoutBit_3 : decode cX3_withoutBit 3 = .ok (.iconst 1, 1) := by decide +kernel
theorem dX3_withoutBit_4 : decode cX3_withoutBit 4 = .ok (.isub, 1) := by decide +kernel
theorem dX3_withoutBit_5 : decode cX3_withoutBit 5 = .ok (.istore_n 2, 1) := by decide +kernel
theorem dX3_withoutBit_6 : decode cX3_withoutBit 6 = .ok (.iload_n 0, 1) := by decide +kernel
theorem dX3_withoutBit_7 : decode cX3_withoutBit 7 = .ok (.iload_n 2, 1) := by decide +kernel
theorem dX3_withoutBit_8 : decode cX3_withoutBit 8 = .ok (.iand, 1) := by decide +kernel
theorem dX3_withoutBit_9 : decode cX3_withoutBit 9 = .ok (.iload_n 0, 1) := by decide +kernel
theorem dX3_withoutBit_10 : decode cX3_withoutBit 10 = .ok (.iconst 1, 1) := by decide +kernel
theorem dX3_withoutBit_11 : decode cX3_withoutBit 11 = .ok (.iushr, 1) := by decide +kernel
theorem dX3_withoutBit_12 : decode cX3_withoutBit 12 = .ok (.iload_n 2, 1) := by decide +kernel
theorem dX3_withoutBit_13 : decode cX3_withoutBit 13 = .ok (.iconst (-1), 1) := by decide +kernel
theorem dX3_withoutBit_14 : decode cX3_withoutBit 14 = .ok (.ixor, 1) := by decide +kernel
theorem dX3_withoutBit_15 : decode cX3_withoutBit 15 = .ok (.iand, 1) := by decide +kernel
theorem dX3_withoutBit_16 : decode cX3_withoutBit 16 = .ok (.ior, 1) := by decide +kernel
theorem dX3_withoutBit_17 : decode cX3_withoutBit 17 = .ok (.ireturn, 1) := by decide +kernel
set_option maxRecDepth 20000 in
theorem ggX3_isAgreeing_X3_letterOf : GoodIn wsX3_isAgreeing wsX3_letterOf := goodIn_r _ [6, 7, 8, 9, 10, 5, 11, 12, 13, 14, 15, 16, 17, 18, 19, 20, 21, 22, 23, 24, 25] (by decide +kernel) (by decide +kernel)
set_option maxRecDepth 20000 in
theorem gX3_isAgreeing_X3_letterOf : GoodIn wsX3_isAgreeing (wsV RX3 77 RX3 yX3_letterOf wsX3_letterOf) := goodIn_app (goodIn_of _ (by decide +kernel)) ggX3_isAgreeing_X3_letterOf
theorem dX3_isAgreeing_0 : decode cX3_isAgreeing 0 = .ok (.aload_n 0, 1) := by decide +kernel
theorem dX3_isAgreeing_1 : decode cX3_isAgreeing 1 = .ok (.getfield 27, 3) := by decide +kernel
theorem dX3_isAgreeing_4 : decode cX3_isAgreeing 4 = .ok (.iload_n 1, 1) := by decide +kernel
theorem dX3_isAgreeing_5 : decode cX3_isAgreeing 5 = .ok (.iaload, 1) := by decide +kernel
theorem dX3_isAgreeing_6 : decode cX3_isAgreeing 6 = .ok (.iconst (-1), 1) := by decide +kernel
theorem dX3_isAgreeing_7 : decode cX3_isAgreeing 7 = .ok (.if_icmp .eq 30, 3) := by decide +kernel
theorem dX3_isAgreeing_10 : decode cX3_isAgreeing 10 = .ok (.aload_n 0, 1) := by decide +kernel
theorem dX3_isAgreeing_11 : decode cX3_isAgreeing 11 = .ok (.getfield 27, 3) := by decide +kernel
theorem dX3_isAgreeing_14 : decode cX3_isAgreeing 14 = .ok (.iload_n 2, 1) := by decide +kernel
theorem dX3_isAgreeing_15 : decode cX3_isAgreeing 15 = .ok (.iaload, 1) := by decide +kernel
theorem dX3_isAgreeing_16 : decode cX3_isAgreeing 16 = .ok (.iconst (-1), 1) := by decide +kernel
theorem dX3_isAgreeing_17 : decode cX3_isAgreeing 17 = .ok (.if_icmp .eq 20, 3) := by decide +kernel
theorem dX3_isAgreeing_20 : decode cX3_isAgreeing 20 = .ok (.aload_n 0, 1) := by decide +kernel
theorem dX3_isAgreeing_21 : decode cX3_isAgreeing 21 = .ok (.getfield 27, 3) := by decide +kernel
theorem dX3_isAgreeing_24 : decode cX3_isAgreeing 24 = .ok (.iload_n 1, 1) := by decide +kernel
theorem dX3_isAgreeing_25 : decode cX3_isAgreeing 25 = .ok (.iaload, 1) := by decide +kernel
theorem dX3_isAgreeing_26 : decode cX3_isAgreeing 26 = .ok (.aload_n 0, 1) := by decide +kernel
theorem dX3_isAgreeing_27 : decode cX3_isAgreeing 27 = .ok (.getfield 27, 3) := by decide +kernel
theorem dX3_isAgreeing_30 : decode cX3_isAgreeing 30 = .ok (.iload_n 2, 1) := by decide +kernel
theorem dX3_isAgreeing_31 : decode cX3_isAgreeing 31 = .ok (.iaload, 1) := by decide +kernel
theorem dX3_isAgreeing_32 : decode cX3_isAgreeing 32 = .ok (.if_icmp .eq 5, 3) := by decide +kernel
theorem dX3_isAgreeing_35 : decode cX3_isAgreeing 35 = .ok (.iconst 0, 1) := by decide +kernel
theorem dX3_isAgreeing_36 : decode cX3_isAgreeing 36 = .ok (.ireturn, 1) := by decide +kernel
theorem dX3_isAgreeing_37 : decode cX3_isAgreeing 37 = .ok (.iconst 0, 1) := by decide +kernel
theorem dX3_isAgreeing_38 : decode cX3_isAgreeing 38 = .ok (.istore_n 3, 1) := by decide +kernel
theorem dX3_isAgreeing_39 : decode cX3_isAgreeing 39 = .ok (.iload_n 3, 1) := by decide +kernel
theorem dX3_isAgreeing_40 : decode cX3_isAgreeing 40 = .ok (.bipush 8, 2) := by decide +kernel
theorem dX3_isAgreeing_42 : decode cX3_isAgreeing 42 = .ok (.if_icmp .ge 44, 3) := by decide +kernel
theorem dX3_isAgreeing_45 : decode cX3_isAgreeing 45 = .ok (.aload_n 0, 1) := by decide +kernel
theorem dX3_isAgreeing_46 : decode cX3_isAgreeing 46 = .ok (.iload_n 1, 1) := by decide +kernel
theorem dX3_isAgreeing_47 : decode cX3_isAgreeing 47 = .ok (.iload_n 3, 1) := by decide +kernel
theorem dX3_isAgreeing_48 : decode cX3_isAgreeing 48 = .ok (.invokevirtual 77, 3) := by decide +kernel
theorem dX3_isAgreeing_51 : decode cX3_isAgreeing 51 = .ok (.istore 4, 2) := by decide +kernel
theorem dX3_isAgreeing_53 : decode cX3_isAgreeing 53 = .ok (.aload_n 0, 1) := by decide +kernel
theorem dX3_isAgreeing_54 : decode cX3_isAgreeing 54 = .ok (.iload_n 2, 1) := by decide +kernel
theorem dX3_isAgreeing_55 : decode cX3_isAgreeing 55 = .ok (.iload_n 3, 1) := by decide +kernel
theorem dX3_isAgreeing_56 : decode cX3_isAgreeing 56 = .ok (.invokevirtual 77, 3) := by decide +kernel
theorem dX3_isAgreeing_59 : decode cX3_isAgreeing 59 = .ok (.istore 5, 2) := by decide +kernel
theorem dX3_isAgreeing_61 : decode cX3_isAgreeing 61 = .ok (.iload 4, 2) := by decide +kernel
theorem dX3_isAgreeing_63 : decode cX3_isAgreeing 63 = .ok (.ifCond .eq 17, 3) := by decide +kernel
theorem dX3_isAgreeing_66 : decode cX3_isAgreeing 66 = .ok (.iload 5, 2) := by decide +kernel
theorem dX3_isAgreeing_68 : decode cX3_isAgreeing 68 = .ok (.ifCond .eq 12, 3) := by decide +kernel
theorem dX3_isAgreeing_71 : decode cX3_isAgreeing 71 = .ok (.iload 4, 2) := by decide +kernel
theorem dX3_isAgreeing_73 : decode cX3_isAgreeing 73 = .ok (.iload 5, 2) := by decide +kernel
theorem dX3_isAgreeing_75 : decode cX3_isAgreeing 75 = .ok (.if_icmp .eq 5, 3) := by decide +kernel
theorem dX3_isAgreeing_78 : decode cX3_isAgreeing 78 = .ok (.iconst 0, 1) := by decide +kernel
theorem dX3_isAgreeing_79 : decode cX3_isAgreeing 79 = .ok (.ireturn, 1) := by decide +kernel
theorem dX3_isAgreeing_80 : decode cX3_isAgreeing 80 = .ok (.iinc 3 1, 3) := by decide +kernel
theorem dX3_isAgreeing_83 : decode cX3_isAgreeing 83 = .ok (.goto (-44), 3) := by decide +kernel
theorem dX3_isAgreeing_86 : decode cX3_isAgreeing 86 = .ok (.iconst 1, 1) := by decide +kernel
theorem dX3_isAgreeing_87 : decode cX3_isAgreeing 87 = .ok (.ireturn, 1) := by decide +kernel
set_option maxRecDepth 20000 in
theorem ggX3_tellAgreeing_X3_isStone : GoodIn wsX3_tellAgreeing wsX3_isStone := goodIn_r _ [5, 6, 21, 22, 23, 24, 25, 26, 27, 28, 29, 30, 31, 32, 33, 34] (by decide +kernel) (by decide +kernel)
set_option maxRecDepth 20000 in
theorem gX3_tellAgreeing_X3_isStone : GoodIn wsX3_tellAgreeing (wsV RX3 74 RX3 yX3_isStone wsX3_isStone) := goodIn_app (goodIn_of _ (by decide +kernel)) ggX3_tellAgreeing_X3_isStone
set_option maxRecDepth 20000 in
theorem ggX3_tellAgreeing_X3_isAgreeing : GoodIn wsX3_tellAgreeing wsX3_isAgreeing := goodIn_r _ [10, 11, 12, 13, 14, 4, 15, 16, 17, 18, 19, 20, 21, 22, 23, 24, 25, 26, 27, 28, 29, 30, 31, 32, 33, 34] (by decide +kernel) (by decide +kernel)
set_option maxRecDepth 20000 in
theorem gX3_tellAgreeing_X3_isAgreeing : GoodIn wsX3_tellAgreeing (wsV RX3 83 RX3 yX3_isAgreeing wsX3_isAgreeing) := goodIn_app (goodIn_of _ (by decide +kernel)) ggX3_tellAgreeing_X3_isAgreeing
theorem dX3_tellAgreeing_0 : decode cX3_tellAgreeing 0 = .ok (.aload_n 0, 1) := by decide +kernel
theorem dX3_tellAgreeing_1 : decode cX3_tellAgreeing 1 = .ok (.iload_n 1, 1) := by decide +kernel
theorem dX3_tellAgreeing_2 : decode cX3_tellAgreeing 2 = .ok (.invokevirtual 74, 3) := by decide +kernel
theorem dX3_tellAgreeing_5 : decode cX3_tellAgreeing 5 = .ok (.ifCond .eq 11, 3) := by decide +kernel
theorem dX3_tellAgreeing_8 : decode cX3_tellAgreeing 8 = .ok (.aload_n 0, 1) := by decide +kernel
theorem dX3_tellAgreeing_9 : decode cX3_tellAgreeing 9 = .ok (.iload_n 2, 1) := by decide +kernel
theorem dX3_tellAgreeing_10 : decode cX3_tellAgreeing 10 = .ok (.invokevirtual 74, 3) := by decide +kernel
theorem dX3_tellAgreeing_13 : decode cX3_tellAgreeing 13 = .ok (.ifCond .ne 5, 3) := by decide +kernel
theorem dX3_tellAgreeing_16 : decode cX3_tellAgreeing 16 = .ok (.iconst (-1), 1) := by decide +kernel
theorem dX3_tellAgreeing_17 : decode cX3_tellAgreeing 17 = .ok (.ireturn, 1) := by decide +kernel
theorem dX3_tellAgreeing_18 : decode cX3_tellAgreeing 18 = .ok (.aload_n 0, 1) := by decide +kernel
theorem dX3_tellAgreeing_19 : decode cX3_tellAgreeing 19 = .ok (.iload_n 1, 1) := by decide +kernel
theorem dX3_tellAgreeing_20 : decode cX3_tellAgreeing 20 = .ok (.iload_n 2, 1) := by decide +kernel
theorem dX3_tellAgreeing_21 : decode cX3_tellAgreeing 21 = .ok (.invokevirtual 83, 3) := by decide +kernel
theorem dX3_tellAgreeing_24 : decode cX3_tellAgreeing 24 = .ok (.ifCond .eq 7, 3) := by decide +kernel
theorem dX3_tellAgreeing_27 : decode cX3_tellAgreeing 27 = .ok (.iconst 1, 1) := by decide +kernel
theorem dX3_tellAgreeing_28 : decode cX3_tellAgreeing 28 = .ok (.goto 4, 3) := by decide +kernel
theorem dX3_tellAgreeing_31 : decode cX3_tellAgreeing 31 = .ok (.iconst 0, 1) := by decide +kernel
theorem dX3_tellAgreeing_32 : decode cX3_tellAgreeing 32 = .ok (.ireturn, 1) := by decide +kernel
set_option maxRecDepth 20000 in
theorem ggX3_findUnlike_X3_isAgreeing : GoodIn wsX3_findUnlike wsX3_isAgreeing := goodIn_r _ [7, 8, 9, 10, 11, 6, 12, 13, 14, 15, 16, 17, 18, 19, 20, 21, 22, 23, 24, 25, 26, 27, 28, 29, 30, 31] (by decide +kernel) (by decide +kernel)
set_option maxRecDepth 20000 in
theorem gX3_findUnlike_X3_isAgreeing : GoodIn wsX3_findUnlike (wsV RX3 83 RX3 yX3_isAgreeing wsX3_isAgreeing) := goodIn_app (goodIn_of _ (by decide +kernel)) ggX3_findUnlike_X3_isAgreeing
theorem dX3_findUnlike_0 : decode cX3_findUnlike 0 = .ok (.iconst 0, 1) := by decide +kernel
theorem dX3_findUnlike_1 : decode cX3_findUnlike 1 = .ok (.istore_n 1, 1) := by decide +kernel
theorem dX3_findUnlike_2 : decode cX3_findUnlike 2 = .ok (.iload_n 1, 1) := by decide +kernel
theorem dX3_findUnlike_3 : decode cX3_findUnlike 3 = .ok (.aload_n 0, 1) := by decide +kernel
theorem dX3_findUnlike_4 : decode cX3_findUnlike 4 = .ok (.getfield 33, 3) := by decide +kernel
theorem dX3_findUnlike_7 : decode cX3_findUnlike 7 = .ok (.if_icmp .ge 53, 3) := by decide +kernel
theorem dX3_findUnlike_10 : decode cX3_findUnlike 10 = .ok (.aload_n 0, 1) := by decide +kernel
theorem dX3_findUnlike_11 : decode cX3_findUnlike 11 = .ok (.getfield 40, 3) := by decide +kernel
theorem dX3_findUnlike_14 : decode cX3_findUnlike 14 = .ok (.iload_n 1, 1) := by decide +kernel
theorem dX3_findUnlike_15 : decode cX3_findUnlike 15 = .ok (.iconst 0, 1) := by decide +kernel
theorem dX3_findUnlike_16 : decode cX3_findUnlike 16 = .ok (.iastore, 1) := by decide +kernel
theorem dX3_findUnlike_17 : decode cX3_findUnlike 17 = .ok (.iconst 0, 1) := by decide +kernel
theorem dX3_findUnlike_18 : decode cX3_findUnlike 18 = .ok (.istore_n 2, 1) := by decide +kernel
theorem dX3_findUnlike_19 : decode cX3_findUnlike 19 = .ok (.iload_n 2, 1) := by decide +kernel
theorem dX3_findUnlike_20 : decode cX3_findUnlike 20 = .ok (.aload_n 0, 1) := by decide +kernel
theorem dX3_findUnlike_21 : decode cX3_findUnlike 21 = .ok (.getfield 33, 3) := by decide +kernel
theorem dX3_findUnlike_24 : decode cX3_findUnlike 24 = .ok (.if_icmp .ge 30, 3) := by decide +kernel
theorem dX3_findUnlike_27 : decode cX3_findUnlike 27 = .ok (.aload_n 0, 1) := by decide +kernel
theorem dX3_findUnlike_28 : decode cX3_findUnlike 28 = .ok (.iload_n 1, 1) := by decide +kernel
theorem dX3_findUnlike_29 : decode cX3_findUnlike 29 = .ok (.iload_n 2, 1) := by decide +kernel
theorem dX3_findUnlike_30 : decode cX3_findUnlike 30 = .ok (.invokevirtual 83, 3) := by decide +kernel
theorem dX3_findUnlike_33 : decode cX3_findUnlike 33 = .ok (.ifCond .ne 15, 3) := by decide +kernel
theorem dX3_findUnlike_36 : decode cX3_findUnlike 36 = .ok (.aload_n 0, 1) := by decide +kernel
theorem dX3_findUnlike_37 : decode cX3_findUnlike 37 = .ok (.getfield 40, 3) := by decide +kernel
theorem dX3_findUnlike_40 : decode cX3_findUnlike 40 = .ok (.iload_n 1, 1) := by decide +kernel
theorem dX3_findUnlike_41 : decode cX3_findUnlike 41 = .ok (.dup2, 1) := by decide +kernel
theorem dX3_findUnlike_42 : decode cX3_findUnlike 42 = .ok (.iaload, 1) := by decide +kernel
theorem dX3_findUnlike_43 : decode cX3_findUnlike 43 = .ok (.iconst 1, 1) := by decide +kernel
theorem dX3_findUnlike_44 : decode cX3_findUnlike 44 = .ok (.iload_n 2, 1) := by decide +kernel
theorem dX3_findUnlike_45 : decode cX3_findUnlike 45 = .ok (.ishl, 1) := by decide +kernel
theorem dX3_findUnlike_46 : decode cX3_findUnlike 46 = .ok (.ior, 1) := by decide +kernel
theorem dX3_findUnlike_47 : decode cX3_findUnlike 47 = .ok (.iastore, 1) := by decide +kernel
theorem dX3_findUnlike_48 : decode cX3_findUnlike 48 = .ok (.iinc 2 1, 3) := by decide +kernel
theorem dX3_findUnlike_51 : decode cX3_findUnlike 51 = .ok (.goto (-32), 3) := by decide +kernel
theorem dX3_findUnlike_54 : decode cX3_findUnlike 54 = .ok (.iinc 1 1, 3) := by decide +kernel
theorem dX3_findUnlike_57 : decode cX3_findUnlike 57 = .ok (.goto (-55), 3) := by decide +kernel
theorem dX3_findUnlike_60 : decode cX3_findUnlike 60 = .ok (.return_, 1) := by decide +kernel
set_option maxRecDepth 20000 in
theorem ggX3_fits_X4_hasBit : GoodIn wsX3_fits wsX4_hasBit := goodIn_r _ [3] (by decide +kernel) (by decide +kernel)
set_option maxRecDepth 20000 in
theorem gX3_fits_X4_hasBit_n86 : GoodIn wsX3_fits (wsX4_hasBit) := ggX3_fits_X4_hasBit
set_option maxRecDepth 20000 in
theorem ggX3_fits_X3_goTogether : GoodIn wsX3_fits wsX3_goTogether := goodIn_r _ [8, 9, 10, 11, 12, 13, 14, 15, 16, 17, 1, 2, 3, 18, 19, 20, 21, 22, 23, 24, 25, 26, 27, 28, 29, 30, 31] (by decide +kernel) (by decide +kernel)
set_option maxRecDepth 20000 in
theorem gX3_fits_X3_goTogether : GoodIn wsX3_fits (wsV RX3 89 RX3 yX3_goTogether wsX3_goTogether) := goodIn_app (goodIn_of _ (by decide +kernel)) ggX3_fits_X3_goTogether
theorem dX3_fits_0 : decode cX3_fits 0 = .ok (.iconst 0, 1) := by decide +kernel
theorem dX3_fits_1 : decode cX3_fits 1 = .ok (.istore_n 3, 1) := by decide +kernel
theorem dX3_fits_2 : decode cX3_fits 2 = .ok (.iload_n 3, 1) := by decide +kernel
theorem dX3_fits_3 : decode cX3_fits 3 = .ok (.iload_n 1, 1) := by decide +kernel
theorem dX3_fits_4 : decode cX3_fits 4 = .ok (.if_icmp .ge 28, 3) := by decide +kernel
theorem dX3_fits_7 : decode cX3_fits 7 = .ok (.iload_n 2, 1) := by decide +kernel
theorem dX3_fits_8 : decode cX3_fits 8 = .ok (.iload_n 3, 1) := by decide +kernel
theorem dX3_fits_9 : decode cX3_fits 9 = .ok (.invokestatic 86, 3) := by decide +kernel
theorem dX3_fits_12 : decode cX3_fits 12 = .ok (.ifCond .eq 14, 3) := by decide +kernel
theorem dX3_fits_15 : decode cX3_fits 15 = .ok (.aload_n 0, 1) := by decide +kernel
theorem dX3_fits_16 : decode cX3_fits 16 = .ok (.iload_n 1, 1) := by decide +kernel
theorem dX3_fits_17 : decode cX3_fits 17 = .ok (.iload_n 3, 1) := by decide +kernel
theorem dX3_fits_18 : decode cX3_fits 18 = .ok (.invokevirtual 89, 3) := by decide +kernel
theorem dX3_fits_21 : decode cX3_fits 21 = .ok (.ifCond .ne 5, 3) := by decide +kernel
theorem dX3_fits_24 : decode cX3_fits 24 = .ok (.iconst 0, 1) := by decide +kernel
theorem dX3_fits_25 : decode cX3_fits 25 = .ok (.ireturn, 1) := by decide +kernel
theorem dX3_fits_26 : decode cX3_fits 26 = .ok (.iinc 3 1, 3) := by decide +kernel
theorem dX3_fits_29 : decode cX3_fits 29 = .ok (.goto (-27), 3) := by decide +kernel
theorem dX3_fits_32 : decode cX3_fits 32 = .ok (.iconst 1, 1) := by decide +kernel
theorem dX3_fits_33 : decode cX3_fits 33 = .ok (.ireturn, 1) := by decide +kernel
set_option maxRecDepth 20000 in
theorem ggX3_goTogether_X4_hasBit : GoodIn wsX3_goTogether wsX4_hasBit := goodIn_r _ [12] (by decide +kernel) (by decide +kernel)
set_option maxRecDepth 20000 in
theorem gX3_goTogether_X4_hasBit_n86 : GoodIn wsX3_goTogether (wsX4_hasBit) := ggX3_goTogether_X4_hasBit
theorem dX3_goTogether_0 : decode cX3_goTogether 0 = .ok (.aload_n 0, 1) := by decide +kernel
theorem dX3_goTogether_1 : decode cX3_goTogether 1 = .ok (.getfield 40, 3) := by decide +kernel
theorem dX3_goTogether_4 : decode cX3_goTogether 4 = .ok (.iload_n 1, 1) := by decide +kernel
theorem dX3_goTogether_5 : decode cX3_goTogether 5 = .ok (.iaload, 1) := by decide +kernel
theorem dX3_goTogether_6 : decode cX3_goTogether 6 = .ok (.iload_n 2, 1) := by decide +kernel
theorem dX3_goTogether_7 : decode cX3_goTogether 7 = .ok (.invokestatic 86, 3) := by decide +kernel
theorem dX3_goTogether_10 : decode cX3_goTogether 10 = .ok (.ifCond .ne 7, 3) := by decide +kernel
theorem dX3_goTogether_13 : decode cX3_goTogether 13 = .ok (.iconst 1, 1) := by decide +kernel
theorem dX3_goTogether_14 : decode cX3_goTogether 14 = .ok (.goto 4, 3) := by decide +kernel
theorem dX3_goTogether_17 : decode cX3_goTogether 17 = .ok (.iconst 0, 1) := by decide +kernel
theorem dX3_goTogether_18 : decode cX3_goTogether 18 = .ok (.istore_n 3, 1) := by decide +kernel
theorem dX3_goTogether_19 : decode cX3_goTogether 19 = .ok (.aload_n 0, 1) := by decide +kernel
theorem dX3_goTogether_20 : decode cX3_goTogether 20 = .ok (.getfield 30, 3) := by decide +kernel
theorem dX3_goTogether_23 : decode cX3_goTogether 23 = .ok (.iload_n 1, 1) := by decide +kernel
theorem dX3_goTogether_24 : decode cX3_goTogether 24 = .ok (.iaload, 1) := by decide +kernel
theorem dX3_goTogether_25 : decode cX3_goTogether 25 = .ok (.iload_n 2, 1) := by decide +kernel
theorem dX3_goTogether_26 : decode cX3_goTogether 26 = .ok (.invokestatic 86, 3) := by decide +kernel
theorem dX3_goTogether_29 : decode cX3_goTogether 29 = .ok (.ifCond .eq 32, 3) := by decide +kernel
theorem dX3_goTogether_32 : decode cX3_goTogether 32 = .ok (.iload_n 3, 1) := by decide +kernel
theorem dX3_goTogether_33 : decode cX3_goTogether 33 = .ok (.ifCond .eq 26, 3) := by decide +kernel
theorem dX3_goTogether_36 : decode cX3_goTogether 36 = .ok (.aload_n 0, 1) := by decide +kernel
theorem dX3_goTogether_37 : decode cX3_goTogether 37 = .ok (.getfield 43, 3) := by decide +kernel
theorem dX3_goTogether_40 : decode cX3_goTogether 40 = .ok (.iload_n 1, 1) := by decide +kernel
theorem dX3_goTogether_41 : decode cX3_goTogether 41 = .ok (.iaload, 1) := by decide +kernel
theorem dX3_goTogether_42 : decode cX3_goTogether 42 = .ok (.aload_n 0, 1) := by decide +kernel
theorem dX3_goTogether_43 : decode cX3_goTogether 43 = .ok (.getfield 43, 3) := by decide +kernel
theorem dX3_goTogether_46 : decode cX3_goTogether 46 = .ok (.iload_n 2, 1) := by decide +kernel
theorem dX3_goTogether_47 : decode cX3_goTogether 47 = .ok (.iaload, 1) := by decide +kernel
theorem dX3_goTogether_48 : decode cX3_goTogether 48 = .ok (.isub, 1) := by decide +kernel
theorem dX3_goTogether_49 : decode cX3_goTogether 49 = .ok (.invokestatic 92, 3) := by decide +kernel
theorem dX3_goTogether_52 : decode cX3_goTogether 52 = .ok (.aload_n 0, 1) := by decide +kernel
theorem dX3_goTogether_53 : decode cX3_goTogether 53 = .ok (.getfield 37, 3) := by decide +kernel
theorem dX3_goTogether_56 : decode cX3_goTogether 56 = .ok (.if_icmp .le 5, 3) := by decide +kernel
theorem dX3_goTogether_59 : decode cX3_goTogether 59 = .ok (.iconst 0, 1) := by decide +kernel
theorem dX3_goTogether_60 : decode cX3_goTogether 60 = .ok (.ireturn, 1) := by decide +kernel
theorem dX3_goTogether_61 : decode cX3_goTogether 61 = .ok (.iload_n 3, 1) := by decide +kernel
theorem dX3_goTogether_62 : decode cX3_goTogether 62 = .ok (.ifCond .ne 33, 3) := by decide +kernel
theorem dX3_goTogether_65 : decode cX3_goTogether 65 = .ok (.aload_n 0, 1) := by decide +kernel
theorem dX3_goTogether_66 : decode cX3_goTogether 66 = .ok (.getfield 11, 3) := by decide +kernel
theorem dX3_goTogether_69 : decode cX3_goTogether 69 = .ok (.iload_n 1, 1) := by decide +kernel
theorem dX3_goTogether_70 : decode cX3_goTogether 70 = .ok (.iaload, 1) := by decide +kernel
theorem dX3_goTogether_71 : decode cX3_goTogether 71 = .ok (.aload_n 0, 1) := by decide +kernel
theorem dX3_goTogether_72 : decode cX3_goTogether 72 = .ok (.getfield 11, 3) := by decide +kernel
theorem dX3_goTogether_75 : decode cX3_goTogether 75 = .ok (.iload_n 2, 1) := by decide +kernel
theorem dX3_goTogether_76 : decode cX3_goTogether 76 = .ok (.iaload, 1) := by decide +kernel
theorem dX3_goTogether_77 : decode cX3_goTogether 77 = .ok (.if_icmp .ne 18, 3) := by decide +kernel
theorem dX3_goTogether_80 : decode cX3_goTogether 80 = .ok (.aload_n 0, 1) := by decide +kernel
theorem dX3_goTogether_81 : decode cX3_goTogether 81 = .ok (.getfield 43, 3) := by decide +kernel
theorem dX3_goTogether_84 : decode cX3_goTogether 84 = .ok (.iload_n 1, 1) := by decide +kernel
theorem dX3_goTogether_85 : decode cX3_goTogether 85 = .ok (.iaload, 1) := by decide +kernel
theorem dX3_goTogether_86 : decode cX3_goTogether 86 = .ok (.aload_n 0, 1) := by decide +kernel
theorem dX3_goTogether_87 : decode cX3_goTogether 87 = .ok (.getfield 43, 3) := by decide +kernel
theorem dX3_goTogether_90 : decode cX3_goTogether 90 = .ok (.iload_n 2, 1) := by decide +kernel
theorem dX3_goTogether_91 : decode cX3_goTogether 91 = .ok (.iaload, 1) := by decide +kernel
theorem dX3_goTogether_92 : decode cX3_goTogether 92 = .ok (.if_icmp .eq 7, 3) := by decide +kernel
theorem dX3_goTogether_95 : decode cX3_goTogether 95 = .ok (.iconst 1, 1) := by decide +kernel
theorem dX3_goTogether_96 : decode cX3_goTogether 96 = .ok (.goto 4, 3) := by decide +kernel
theorem dX3_goTogether_99 : decode cX3_goTogether 99 = .ok (.iconst 0, 1) := by decide +kernel
theorem dX3_goTogether_100 : decode cX3_goTogether 100 = .ok (.ireturn, 1) := by decide +kernel
set_option maxRecDepth 20000 in
theorem ggX3_countFrom_X3_fits : GoodIn wsX3_countFrom wsX3_fits := goodIn_r _ [10, 11, 12, 13, 14, 15, 16, 9, 17, 18, 19, 4, 20, 21, 22, 23, 24, 25, 28, 29, 30, 31, 32, 33, 34, 35, 36, 37, 38, 39, 40, 41] (by decide +kernel) (by decide +kernel)
set_option maxRecDepth 20000 in
theorem gX3_countFrom_X3_fits : GoodIn wsX3_countFrom (wsV RX3 98 RX3 yX3_fits wsX3_fits) := goodIn_app (goodIn_of _ (by decide +kernel)) ggX3_countFrom_X3_fits
set_option maxRecDepth 20000 in
theorem ggX3_countFrom_X3_countFrom : GoodIn wsX3_countFrom wsX3_countFrom := goodIn_r _ [0, 1, 2, 3, 4, 5, 6, 7, 8, 9, 10, 11, 12, 13, 14, 15, 16, 17, 18, 19, 20, 21, 22, 23, 24, 25, 26, 27, 28, 29, 30, 31, 32, 33, 34, 35, 36, 37, 38, 39, 40, 41] (by decide +kernel) (by decide +kernel)
set_option maxRecDepth 20000 in
theorem gX3_countFrom_X3_countFrom : GoodIn wsX3_countFrom (va_wsS RX3 101 yX3_countFrom wsX3_countFrom) := goodIn_app (goodIn_of _ (by decide +kernel)) ggX3_countFrom_X3_countFrom
theorem dX3_countFrom_0 : decode cX3_countFrom 0 = .ok (.iload_n 1, 1) := by decide +kernel
theorem dX3_countFrom_1 : decode cX3_countFrom 1 = .ok (.aload_n 0, 1) := by decide +kernel
theorem dX3_countFrom_2 : decode cX3_countFrom 2 = .ok (.getfield 33, 3) := by decide +kernel
theorem dX3_countFrom_5 : decode cX3_countFrom 5 = .ok (.if_icmp .ge 9, 3) := by decide +kernel
theorem dX3_countFrom_8 : decode cX3_countFrom 8 = .ok (.iload_n 1, 1) := by decide +kernel
theorem dX3_countFrom_9 : decode cX3_countFrom 9 = .ok (.bipush 6, 2) := by decide +kernel
theorem dX3_countFrom_11 : decode cX3_countFrom 11 = .ok (.if_icmp .lt 5, 3) := by decide +kernel
theorem dX3_countFrom_14 : decode cX3_countFrom 14 = .ok (.iconst 1, 1) := by decide +kernel
theorem dX3_countFrom_15 : decode cX3_countFrom 15 = .ok (.ireturn, 1) := by decide +kernel
theorem dX3_countFrom_16 : decode cX3_countFrom 16 = .ok (.iconst 0, 1) := by decide +kernel
theorem dX3_countFrom_17 : decode cX3_countFrom 17 = .ok (.istore_n 2, 1) := by decide +kernel
theorem dX3_countFrom_18 : decode cX3_countFrom 18 = .ok (.aload_n 0, 1) := by decide +kernel
theorem dX3_countFrom_19 : decode cX3_countFrom 19 = .ok (.getfield 15, 3) := by decide +kernel
theorem dX3_countFrom_22 : decode cX3_countFrom 22 = .ok (.iload_n 1, 1) := by decide +kernel
theorem dX3_countFrom_23 : decode cX3_countFrom 23 = .ok (.iaload, 1) := by decide +kernel
theorem dX3_countFrom_24 : decode cX3_countFrom 24 = .ok (.istore_n 3, 1) := by decide +kernel
theorem dX3_countFrom_25 : decode cX3_countFrom 25 = .ok (.iload_n 3, 1) := by decide +kernel
theorem dX3_countFrom_26 : decode cX3_countFrom 26 = .ok (.aload_n 0, 1) := by decide +kernel
theorem dX3_countFrom_27 : decode cX3_countFrom 27 = .ok (.getfield 18, 3) := by decide +kernel
theorem dX3_countFrom_30 : decode cX3_countFrom 30 = .ok (.iload_n 1, 1) := by decide +kernel
theorem dX3_countFrom_31 : decode cX3_countFrom 31 = .ok (.iaload, 1) := by decide +kernel
theorem dX3_countFrom_32 : decode cX3_countFrom 32 = .ok (.if_icmp .gt 60, 3) := by decide +kernel
theorem dX3_countFrom_35 : decode cX3_countFrom 35 = .ok (.aload_n 0, 1) := by decide +kernel
theorem dX3_countFrom_36 : decode cX3_countFrom 36 = .ok (.getfield 43, 3) := by decide +kernel
theorem dX3_countFrom_39 : decode cX3_countFrom 39 = .ok (.iload_n 1, 1) := by decide +kernel
theorem dX3_countFrom_40 : decode cX3_countFrom 40 = .ok (.iload_n 3, 1) := by decide +kernel
theorem dX3_countFrom_41 : decode cX3_countFrom 41 = .ok (.iastore, 1) := by decide +kernel
theorem dX3_countFrom_42 : decode cX3_countFrom 42 = .ok (.aload_n 0, 1) := by decide +kernel
theorem dX3_countFrom_43 : decode cX3_countFrom 43 = .ok (.iload_n 1, 1) := by decide +kernel
theorem dX3_countFrom_44 : decode cX3_countFrom 44 = .ok (.iconst (-1), 1) := by decide +kernel
theorem dX3_countFrom_45 : decode cX3_countFrom 45 = .ok (.invokevirtual 98, 3) := by decide +kernel
theorem dX3_countFrom_48 : decode cX3_countFrom 48 = .ok (.ifCond .eq 13, 3) := by decide +kernel
theorem dX3_countFrom_51 : decode cX3_countFrom 51 = .ok (.aload_n 0, 1) := by decide +kernel
theorem dX3_countFrom_52 : decode cX3_countFrom 52 = .ok (.iload_n 1, 1) := by decide +kernel
theorem dX3_countFrom_53 : decode cX3_countFrom 53 = .ok (.iconst 1, 1) := by decide +kernel
theorem dX3_countFrom_54 : decode cX3_countFrom 54 = .ok (.iadd, 1) := by decide +kernel
theorem dX3_countFrom_55 : decode cX3_countFrom 55 = .ok (.invokestatic 101, 3) := by decide +kernel
theorem dX3_countFrom_58 : decode cX3_countFrom 58 = .ok (.goto 4, 3) := by decide +kernel
theorem dX3_countFrom_61 : decode cX3_countFrom 61 = .ok (.iconst 0, 1) := by decide +kernel
theorem dX3_countFrom_62 : decode cX3_countFrom 62 = .ok (.istore 4, 2) := by decide +kernel
theorem dX3_countFrom_64 : decode cX3_countFrom 64 = .ok (.iload 4, 2) := by decide +kernel
theorem dX3_countFrom_66 : decode cX3_countFrom 66 = .ok (.ifCond .le 20, 3) := by decide +kernel
theorem dX3_countFrom_69 : decode cX3_countFrom 69 = .ok (.aload_n 0, 1) := by decide +kernel
theorem dX3_countFrom_70 : decode cX3_countFrom 70 = .ok (.getfield 46, 3) := by decide +kernel
theorem dX3_countFrom_73 : decode cX3_countFrom 73 = .ok (.iload_n 1, 1) := by decide +kernel
theorem dX3_countFrom_74 : decode cX3_countFrom 74 = .ok (.dup2, 1) := by decide +kernel
theorem dX3_countFrom_75 : decode cX3_countFrom 75 = .ok (.laload, 1) := by decide +kernel
theorem dX3_countFrom_76 : decode cX3_countFrom 76 = .ok (.lconst 1, 1) := by decide +kernel
theorem dX3_countFrom_77 : decode cX3_countFrom 77 = .ok (.iload_n 3, 1) := by decide +kernel
theorem dX3_countFrom_78 : decode cX3_countFrom 78 = .ok (.lshl, 1) := by decide +kernel
theorem dX3_countFrom_79 : decode cX3_countFrom 79 = .ok (.lor, 1) := by decide +kernel
theorem dX3_countFrom_80 : decode cX3_countFrom 80 = .ok (.lastore, 1) := by decide +kernel
theorem dX3_countFrom_81 : decode cX3_countFrom 81 = .ok (.iload_n 2, 1) := by decide +kernel
theorem dX3_countFrom_82 : decode cX3_countFrom 82 = .ok (.iload 4, 2) := by decide +kernel
theorem dX3_countFrom_84 : decode cX3_countFrom 84 = .ok (.iadd, 1) := by decide +kernel
theorem dX3_countFrom_85 : decode cX3_countFrom 85 = .ok (.istore_n 2, 1) := by decide +kernel
theorem dX3_countFrom_86 : decode cX3_countFrom 86 = .ok (.iinc 3 1, 3) := by decide +kernel
theorem dX3_countFrom_89 : decode cX3_countFrom 89 = .ok (.goto (-64), 3) := by decide +kernel
theorem dX3_countFrom_92 : decode cX3_countFrom 92 = .ok (.iload_n 2, 1) := by decide +kernel
theorem dX3_countFrom_93 : decode cX3_countFrom 93 = .ok (.ireturn, 1) := by decide +kernel
set_option maxRecDepth 20000 in
theorem ggX3_isRollFrom_X4_hasBit : GoodIn wsX3_isRollFrom wsX4_hasBit := goodIn_r _ [7] (by decide +kernel) (by decide +kernel)
set_option maxRecDepth 20000 in
theorem gX3_isRollFrom_X4_hasBit_n86 : GoodIn wsX3_isRollFrom (wsX4_hasBit) := ggX3_isRollFrom_X4_hasBit
set_option maxRecDepth 20000 in
theorem ggX3_isRollFrom_X3_isRollFrom : GoodIn wsX3_isRollFrom wsX3_isRollFrom := goodIn_r _ [0, 1, 2, 3, 4, 5, 6, 7, 8, 9, 10, 11, 12, 13, 14, 15, 16, 17, 18, 19, 20, 21, 22, 23, 24, 25, 26, 27, 28, 29, 30, 31, 32, 33, 34, 35, 36, 37, 38, 39, 40] (by decide +kernel) (by decide +kernel)
set_option maxRecDepth 20000 in
theorem gX3_isRollFrom_X3_isRollFrom : GoodIn wsX3_isRollFrom (va_wsS RX3 105 yX3_isRollFrom wsX3_isRollFrom) := goodIn_app (goodIn_of _ (by decide +kernel)) ggX3_isRollFrom_X3_isRollFrom
set_option maxRecDepth 20000 in
theorem ggX3_isRollFrom_X3_fits : GoodIn wsX3_isRollFrom wsX3_fits := goodIn_r _ [14, 5, 6, 7, 15, 16, 17, 10, 18, 19, 20, 4, 21, 22, 23, 24, 25, 26, 27, 28, 29, 30, 31, 32, 33, 34, 35, 36, 37, 38, 39, 40] (by decide +kernel) (by decide +kernel)
set_option maxRecDepth 20000 in
theorem gX3_isRollFrom_X3_fits : GoodIn wsX3_isRollFrom (wsV RX3 98 RX3 yX3_fits wsX3_fits) := goodIn_app (goodIn_of _ (by decide +kernel)) ggX3_isRollFrom_X3_fits
theorem dX3_isRollFrom_0 : decode cX3_isRollFrom 0 = .ok (.iload_n 1, 1) := by decide +kernel
theorem dX3_isRollFrom_1 : decode cX3_isRollFrom 1 = .ok (.aload_n 0, 1) := by decide +kernel
theorem dX3_isRollFrom_2 : decode cX3_isRollFrom 2 = .ok (.getfield 33, 3) := by decide +kernel
theorem dX3_isRollFrom_5 : decode cX3_isRollFrom 5 = .ok (.if_icmp .ge 9, 3) := by decide +kernel
theorem dX3_isRollFrom_8 : decode cX3_isRollFrom 8 = .ok (.iload_n 1, 1) := by decide +kernel
theorem dX3_isRollFrom_9 : decode cX3_isRollFrom 9 = .ok (.bipush 6, 2) := by decide +kernel
theorem dX3_isRollFrom_11 : decode cX3_isRollFrom 11 = .ok (.if_icmp .lt 5, 3) := by decide +kernel
theorem dX3_isRollFrom_14 : decode cX3_isRollFrom 14 = .ok (.iconst 1, 1) := by decide +kernel
theorem dX3_isRollFrom_15 : decode cX3_isRollFrom 15 = .ok (.ireturn, 1) := by decide +kernel
theorem dX3_isRollFrom_16 : decode cX3_isRollFrom 16 = .ok (.iload_n 2, 1) := by decide +kernel
theorem dX3_isRollFrom_17 : decode cX3_isRollFrom 17 = .ok (.iload_n 1, 1) := by decide +kernel
theorem dX3_isRollFrom_18 : decode cX3_isRollFrom 18 = .ok (.invokestatic 86, 3) := by decide +kernel
theorem dX3_isRollFrom_21 : decode cX3_isRollFrom 21 = .ok (.ifCond .ne 12, 3) := by decide +kernel
theorem dX3_isRollFrom_24 : decode cX3_isRollFrom 24 = .ok (.aload_n 0, 1) := by decide +kernel
theorem dX3_isRollFrom_25 : decode cX3_isRollFrom 25 = .ok (.iload_n 1, 1) := by decide +kernel
theorem dX3_isRollFrom_26 : decode cX3_isRollFrom 26 = .ok (.iconst 1, 1) := by decide +kernel
theorem dX3_isRollFrom_27 : decode cX3_isRollFrom 27 = .ok (.iadd, 1) := by decide +kernel
theorem dX3_isRollFrom_28 : decode cX3_isRollFrom 28 = .ok (.iload_n 2, 1) := by decide +kernel
theorem dX3_isRollFrom_29 : decode cX3_isRollFrom 29 = .ok (.invokestatic 105, 3) := by decide +kernel
theorem dX3_isRollFrom_32 : decode cX3_isRollFrom 32 = .ok (.ireturn, 1) := by decide +kernel
theorem dX3_isRollFrom_33 : decode cX3_isRollFrom 33 = .ok (.aload_n 0, 1) := by decide +kernel
theorem dX3_isRollFrom_34 : decode cX3_isRollFrom 34 = .ok (.getfield 15, 3) := by decide +kernel
theorem dX3_isRollFrom_37 : decode cX3_isRollFrom 37 = .ok (.iload_n 1, 1) := by decide +kernel
theorem dX3_isRollFrom_38 : decode cX3_isRollFrom 38 = .ok (.iaload, 1) := by decide +kernel
theorem dX3_isRollFrom_39 : decode cX3_isRollFrom 39 = .ok (.istore_n 3, 1) := by decide +kernel
theorem dX3_isRollFrom_40 : decode cX3_isRollFrom 40 = .ok (.iload_n 3, 1) := by decide +kernel
theorem dX3_isRollFrom_41 : decode cX3_isRollFrom 41 = .ok (.aload_n 0, 1) := by decide +kernel
theorem dX3_isRollFrom_42 : decode cX3_isRollFrom 42 = .ok (.getfield 18, 3) := by decide +kernel
theorem dX3_isRollFrom_45 : decode cX3_isRollFrom 45 = .ok (.iload_n 1, 1) := by decide +kernel
theorem dX3_isRollFrom_46 : decode cX3_isRollFrom 46 = .ok (.iaload, 1) := by decide +kernel
theorem dX3_isRollFrom_47 : decode cX3_isRollFrom 47 = .ok (.if_icmp .gt 38, 3) := by decide +kernel
theorem dX3_isRollFrom_50 : decode cX3_isRollFrom 50 = .ok (.aload_n 0, 1) := by decide +kernel
theorem dX3_isRollFrom_51 : decode cX3_isRollFrom 51 = .ok (.getfield 43, 3) := by decide +kernel
theorem dX3_isRollFrom_54 : decode cX3_isRollFrom 54 = .ok (.iload_n 1, 1) := by decide +kernel
theorem dX3_isRollFrom_55 : decode cX3_isRollFrom 55 = .ok (.iload_n 3, 1) := by decide +kernel
theorem dX3_isRollFrom_56 : decode cX3_isRollFrom 56 = .ok (.iastore, 1) := by decide +kernel
theorem dX3_isRollFrom_57 : decode cX3_isRollFrom 57 = .ok (.aload_n 0, 1) := by decide +kernel
theorem dX3_isRollFrom_58 : decode cX3_isRollFrom 58 = .ok (.iload_n 1, 1) := by decide +kernel
theorem dX3_isRollFrom_59 : decode cX3_isRollFrom 59 = .ok (.iload_n 2, 1) := by decide +kernel
theorem dX3_isRollFrom_60 : decode cX3_isRollFrom 60 = .ok (.invokevirtual 98, 3) := by decide +kernel
theorem dX3_isRollFrom_63 : decode cX3_isRollFrom 63 = .ok (.ifCond .eq 16, 3) := by decide +kernel
theorem dX3_isRollFrom_66 : decode cX3_isRollFrom 66 = .ok (.aload_n 0, 1) := by decide +kernel
theorem dX3_isRollFrom_67 : decode cX3_isRollFrom 67 = .ok (.iload_n 1, 1) := by decide +kernel
theorem dX3_isRollFrom_68 : decode cX3_isRollFrom 68 = .ok (.iconst 1, 1) := by decide +kernel
theorem dX3_isRollFrom_69 : decode cX3_isRollFrom 69 = .ok (.iadd, 1) := by decide +kernel
theorem dX3_isRollFrom_70 : decode cX3_isRollFrom 70 = .ok (.iload_n 2, 1) := by decide +kernel
theorem dX3_isRollFrom_71 : decode cX3_isRollFrom 71 = .ok (.invokestatic 105, 3) := by decide +kernel
theorem dX3_isRollFrom_74 : decode cX3_isRollFrom 74 = .ok (.ifCond .eq 5, 3) := by decide +kernel
theorem dX3_isRollFrom_77 : decode cX3_isRollFrom 77 = .ok (.iconst 1, 1) := by decide +kernel
theorem dX3_isRollFrom_78 : decode cX3_isRollFrom 78 = .ok (.ireturn, 1) := by decide +kernel
theorem dX3_isRollFrom_79 : decode cX3_isRollFrom 79 = .ok (.iinc 3 1, 3) := by decide +kernel
theorem dX3_isRollFrom_82 : decode cX3_isRollFrom 82 = .ok (.goto (-42), 3) := by decide +kernel
theorem dX3_isRollFrom_85 : decode cX3_isRollFrom 85 = .ok (.iconst 0, 1) := by decide +kernel
theorem dX3_isRollFrom_86 : decode cX3_isRollFrom 86 = .ok (.ireturn, 1) := by decide +kernel
set_option maxRecDepth 20000 in
theorem ggX3_countRolls_X3_findUnlike : GoodIn wsX3_countRolls wsX3_findUnlike := goodIn_r _ [7, 8, 9, 10, 11, 12, 6, 13, 14, 15, 16, 17, 18, 19, 20, 21, 22, 23, 52, 53, 54, 55, 56, 57, 58, 59, 60, 61, 62, 63, 64, 65] (by decide +kernel) (by decide +kernel)
set_option maxRecDepth 20000 in
theorem gX3_countRolls_X3_findUnlike : GoodIn wsX3_countRolls (wsV RX3 109 RX3 yX3_findUnlike wsX3_findUnlike) := goodIn_app (goodIn_of _ (by decide +kernel)) ggX3_countRolls_X3_findUnlike
set_option maxRecDepth 20000 in
theorem ggX3_countRolls_J7_fill_d0a16 : GoodIn wsX3_countRolls wsJ7_fill_d0a16 := goodIn_r _ [27] (by decide +kernel) (by decide +kernel)
set_option maxRecDepth 20000 in
theorem gX3_countRolls_J7_fill_d0a16 : GoodIn wsX3_countRolls (va_wsS RX3 112 yJ7_fill_d0a16 wsJ7_fill_d0a16) := goodIn_app (goodIn_of _ (by decide +kernel)) ggX3_countRolls_J7_fill_d0a16
set_option maxRecDepth 20000 in
theorem ggX3_countRolls_X3_countFrom : GoodIn wsX3_countRolls wsX3_countFrom := goodIn_r _ [30, 8, 31, 32, 33, 2, 34, 35, 36, 6, 37, 38, 39, 40, 41, 42, 43, 44, 9, 45, 46, 47, 48, 49, 50, 51, 28, 29, 52, 53, 54, 55, 56, 57, 58, 59, 60, 61, 62, 63, 64, 65] (by decide +kernel) (by decide +kernel)
set_option maxRecDepth 20000 in
theorem gX3_countRolls_X3_countFrom : GoodIn wsX3_countRolls (va_wsS RX3 101 yX3_countFrom wsX3_countFrom) := goodIn_app (goodIn_of _ (by decide +kernel)) ggX3_countRolls_X3_countFrom
theorem dX3_countRolls_0 : decode cX3_countRolls 0 = .ok (.aload_n 0, 1) := by decide +kernel
theorem dX3_countRolls_1 : decode cX3_countRolls 1 = .ok (.getfield 50, 3) := by decide +kernel
theorem dX3_countRolls_4 : decode cX3_countRolls 4 = .ok (.iconst (-1), 1) := by decide +kernel
theorem dX3_countRolls_5 : decode cX3_countRolls 5 = .ok (.if_icmp .ne 24, 3) := by decide +kernel
theorem dX3_countRolls_8 : decode cX3_countRolls 8 = .ok (.aload_n 0, 1) := by decide +kernel
theorem dX3_countRolls_9 : decode cX3_countRolls 9 = .ok (.invokevirtual 109, 3) := by decide +kernel
theorem dX3_countRolls_12 : decode cX3_countRolls 12 = .ok (.aload_n 0, 1) := by decide +kernel
theorem dX3_countRolls_13 : decode cX3_countRolls 13 = .ok (.getfield 46, 3) := by decide +kernel
theorem dX3_countRolls_16 : decode cX3_countRolls 16 = .ok (.lconst 0, 1) := by decide +kernel
theorem dX3_countRolls_17 : decode cX3_countRolls 17 = .ok (.invokestatic 112, 3) := by decide +kernel
theorem dX3_countRolls_20 : decode cX3_countRolls 20 = .ok (.aload_n 0, 1) := by decide +kernel
theorem dX3_countRolls_21 : decode cX3_countRolls 21 = .ok (.aload_n 0, 1) := by decide +kernel
theorem dX3_countRolls_22 : decode cX3_countRolls 22 = .ok (.iconst 0, 1) := by decide +kernel
theorem dX3_countRolls_23 : decode cX3_countRolls 23 = .ok (.invokestatic 101, 3) := by decide +kernel
theorem dX3_countRolls_26 : decode cX3_countRolls 26 = .ok (.putfield 50, 3) := by decide +kernel
theorem dX3_countRolls_29 : decode cX3_countRolls 29 = .ok (.aload_n 0, 1) := by decide +kernel
theorem dX3_countRolls_30 : decode cX3_countRolls 30 = .ok (.getfield 50, 3) := by decide +kernel
theorem dX3_countRolls_33 : decode cX3_countRolls 33 = .ok (.ireturn, 1) := by decide +kernel
set_option maxRecDepth 20000 in
theorem ggX3_tellYear_X3_isStone : GoodIn wsX3_tellYear wsX3_isStone := goodIn_r _ [8, 9, 60, 61, 62, 63, 64, 65, 66, 67, 68, 69, 70, 71, 72, 73] (by decide +kernel) (by decide +kernel)
set_option maxRecDepth 20000 in
theorem gX3_tellYear_X3_isStone : GoodIn wsX3_tellYear (wsV RX3 74 RX3 yX3_isStone wsX3_isStone) := goodIn_app (goodIn_of _ (by decide +kernel)) ggX3_tellYear_X3_isStone
set_option maxRecDepth 20000 in
theorem ggX3_tellYear_X3_countRolls : GoodIn wsX3_tellYear wsX3_countRolls := goodIn_r _ [13, 14, 3, 15, 16, 17, 7, 18, 9, 19, 20, 21, 22, 23, 24, 25, 26, 27, 28, 29, 30, 31, 32, 33, 34, 35, 36, 37, 38, 39, 40, 1, 2, 41, 42, 43, 44, 45, 46, 47, 48, 49, 50, 51, 52, 53, 54, 55, 56, 57, 58, 59, 60, 61, 62, 63, 64, 65, 66, 67, 68, 69, 70, 71, 72, 73] (by decide +kernel) (by decide +kernel)
set_option maxRecDepth 20000 in
theorem gX3_tellYear_X3_countRolls : GoodIn wsX3_tellYear (wsV RX3 118 RX3 yX3_countRolls wsX3_countRolls) := goodIn_app (goodIn_of _ (by decide +kernel)) ggX3_tellYear_X3_countRolls
theorem dX3_tellYear_0 : decode cX3_tellYear 0 = .ok (.aload_n 0, 1) := by decide +kernel
theorem dX3_tellYear_1 : decode cX3_tellYear 1 = .ok (.iload_n 1, 1) := by decide +kernel
theorem dX3_tellYear_2 : decode cX3_tellYear 2 = .ok (.invokevirtual 74, 3) := by decide +kernel
theorem dX3_tellYear_5 : decode cX3_tellYear 5 = .ok (.ifCond .eq 19, 3) := by decide +kernel
theorem dX3_tellYear_8 : decode cX3_tellYear 8 = .ok (.iload_n 2, 1) := by decide +kernel
theorem dX3_tellYear_9 : decode cX3_tellYear 9 = .ok (.ifCond .lt 15, 3) := by decide +kernel
theorem dX3_tellYear_12 : decode cX3_tellYear 12 = .ok (.iload_n 2, 1) := by decide +kernel
theorem dX3_tellYear_13 : decode cX3_tellYear 13 = .ok (.iconst 2, 1) := by decide +kernel
theorem dX3_tellYear_14 : decode cX3_tellYear 14 = .ok (.if_icmp .gt 10, 3) := by decide +kernel
theorem dX3_tellYear_17 : decode cX3_tellYear 17 = .ok (.aload_n 0, 1) := by decide +kernel
theorem dX3_tellYear_18 : decode cX3_tellYear 18 = .ok (.invokevirtual 118, 3) := by decide +kernel
theorem dX3_tellYear_21 : decode cX3_tellYear 21 = .ok (.ifCond .ne 5, 3) := by decide +kernel
theorem dX3_tellYear_24 : decode cX3_tellYear 24 = .ok (.iconst (-1), 1) := by decide +kernel
theorem dX3_tellYear_25 : decode cX3_tellYear 25 = .ok (.ireturn, 1) := by decide +kernel
theorem dX3_tellYear_26 : decode cX3_tellYear 26 = .ok (.iconst (-1), 1) := by decide +kernel
theorem dX3_tellYear_27 : decode cX3_tellYear 27 = .ok (.istore_n 3, 1) := by decide +kernel
theorem dX3_tellYear_28 : decode cX3_tellYear 28 = .ok (.iconst (-1), 1) := by decide +kernel
theorem dX3_tellYear_29 : decode cX3_tellYear 29 = .ok (.istore 4, 2) := by decide +kernel
theorem dX3_tellYear_31 : decode cX3_tellYear 31 = .ok (.iconst 0, 1) := by decide +kernel
theorem dX3_tellYear_32 : decode cX3_tellYear 32 = .ok (.istore 5, 2) := by decide +kernel
theorem dX3_tellYear_34 : decode cX3_tellYear 34 = .ok (.aload_n 0, 1) := by decide +kernel
theorem dX3_tellYear_35 : decode cX3_tellYear 35 = .ok (.getfield 15, 3) := by decide +kernel
theorem dX3_tellYear_38 : decode cX3_tellYear 38 = .ok (.iload_n 1, 1) := by decide +kernel
theorem dX3_tellYear_39 : decode cX3_tellYear 39 = .ok (.iaload, 1) := by decide +kernel
theorem dX3_tellYear_40 : decode cX3_tellYear 40 = .ok (.istore 6, 2) := by decide +kernel
theorem dX3_tellYear_42 : decode cX3_tellYear 42 = .ok (.iload 6, 2) := by decide +kernel
theorem dX3_tellYear_44 : decode cX3_tellYear 44 = .ok (.aload_n 0, 1) := by decide +kernel
theorem dX3_tellYear_45 : decode cX3_tellYear 45 = .ok (.getfield 18, 3) := by decide +kernel
theorem dX3_tellYear_48 : decode cX3_tellYear 48 = .ok (.iload_n 1, 1) := by decide +kernel
theorem dX3_tellYear_49 : decode cX3_tellYear 49 = .ok (.iaload, 1) := by decide +kernel
theorem dX3_tellYear_50 : decode cX3_tellYear 50 = .ok (.if_icmp .gt 44, 3) := by decide +kernel
theorem dX3_tellYear_53 : decode cX3_tellYear 53 = .ok (.aload_n 0, 1) := by decide +kernel
theorem dX3_tellYear_54 : decode cX3_tellYear 54 = .ok (.getfield 46, 3) := by decide +kernel
theorem dX3_tellYear_57 : decode cX3_tellYear 57 = .ok (.iload_n 1, 1) := by decide +kernel
theorem dX3_tellYear_58 : decode cX3_tellYear 58 = .ok (.laload, 1) := by decide +kernel
theorem dX3_tellYear_59 : decode cX3_tellYear 59 = .ok (.iload 6, 2) := by decide +kernel
theorem dX3_tellYear_61 : decode cX3_tellYear 61 = .ok (.lushr, 1) := by decide +kernel
theorem dX3_tellYear_62 : decode cX3_tellYear 62 = .ok (.lconst 1, 1) := by decide +kernel
theorem dX3_tellYear_63 : decode cX3_tellYear 63 = .ok (.land, 1) := by decide +kernel
theorem dX3_tellYear_64 : decode cX3_tellYear 64 = .ok (.lconst 0, 1) := by decide +kernel
theorem dX3_tellYear_65 : decode cX3_tellYear 65 = .ok (.lcmp, 1) := by decide +kernel
theorem dX3_tellYear_66 : decode cX3_tellYear 66 = .ok (.ifCond .eq 22, 3) := by decide +kernel
theorem dX3_tellYear_69 : decode cX3_tellYear 69 = .ok (.iload 5, 2) := by decide +kernel
theorem dX3_tellYear_71 : decode cX3_tellYear 71 = .ok (.ifCond .ne 8, 3) := by decide +kernel
theorem dX3_tellYear_74 : decode cX3_tellYear 74 = .ok (.iload 6, 2) := by decide +kernel
theorem dX3_tellYear_76 : decode cX3_tellYear 76 = .ok (.goto 4, 3) := by decide +kernel
theorem dX3_tellYear_79 : decode cX3_tellYear 79 = .ok (.iload_n 3, 1) := by decide +kernel
theorem dX3_tellYear_80 : decode cX3_tellYear 80 = .ok (.istore_n 3, 1) := by decide +kernel
theorem dX3_tellYear_81 : decode cX3_tellYear 81 = .ok (.iload 6, 2) := by decide +kernel
theorem dX3_tellYear_83 : decode cX3_tellYear 83 = .ok (.istore 4, 2) := by decide +kernel
theorem dX3_tellYear_85 : decode cX3_tellYear 85 = .ok (.iinc 5 1, 3) := by decide +kernel
theorem dX3_tellYear_88 : decode cX3_tellYear 88 = .ok (.iinc 6 1, 3) := by decide +kernel
theorem dX3_tellYear_91 : decode cX3_tellYear 91 = .ok (.goto (-49), 3) := by decide +kernel
theorem dX3_tellYear_94 : decode cX3_tellYear 94 = .ok (.iload_n 2, 1) := by decide +kernel
theorem dX3_tellYear_95 : decode cX3_tellYear 95 = .ok (.iconst 2, 1) := by decide +kernel
theorem dX3_tellYear_96 : decode cX3_tellYear 96 = .ok (.if_icmp .ne 6, 3) := by decide +kernel
theorem dX3_tellYear_99 : decode cX3_tellYear 99 = .ok (.iload 5, 2) := by decide +kernel
theorem dX3_tellYear_101 : decode cX3_tellYear 101 = .ok (.ireturn, 1) := by decide +kernel
theorem dX3_tellYear_102 : decode cX3_tellYear 102 = .ok (.iload_n 2, 1) := by decide +kernel
theorem dX3_tellYear_103 : decode cX3_tellYear 103 = .ok (.ifCond .ne 7, 3) := by decide +kernel
theorem dX3_tellYear_106 : decode cX3_tellYear 106 = .ok (.iload_n 3, 1) := by decide +kernel
theorem dX3_tellYear_107 : decode cX3_tellYear 107 = .ok (.goto 5, 3) := by decide +kernel
theorem dX3_tellYear_110 : decode cX3_tellYear 110 = .ok (.iload 4, 2) := by decide +kernel
theorem dX3_tellYear_112 : decode cX3_tellYear 112 = .ok (.ireturn, 1) := by decide +kernel
set_option maxRecDepth 20000 in
theorem ggX3_fewestWrong_X3_findUnlike : GoodIn wsX3_fewestWrong wsX3_findUnlike := goodIn_r _ [6, 7, 8, 9, 10, 11, 5, 12, 13, 14, 15, 16, 17, 18, 19, 20, 21, 22, 58, 59, 60, 61, 62, 63, 64, 65, 66, 67, 68, 69, 70, 71] (by decide +kernel) (by decide +kernel)
set_option maxRecDepth 20000 in
theorem gX3_fewestWrong_X3_findUnlike : GoodIn wsX3_fewestWrong (wsV RX3 109 RX3 yX3_findUnlike wsX3_findUnlike) := goodIn_app (goodIn_of _ (by decide +kernel)) ggX3_fewestWrong_X3_findUnlike
set_option maxRecDepth 20000 in
theorem ggX3_fewestWrong_X3_findFewest : GoodIn wsX3_fewestWrong wsX3_findFewest := goodIn_r _ [26, 7, 27, 28, 29, 30, 31, 32, 33, 34, 35, 5, 36, 37, 38, 39, 40, 41, 42, 43, 44, 45, 46, 47, 48, 49, 50, 8, 51, 52, 53, 54, 55, 56, 57, 58, 59, 60, 61, 62, 63, 64, 65, 66, 67, 68, 69, 70, 71] (by decide +kernel) (by decide +kernel)
set_option maxRecDepth 20000 in
theorem gX3_fewestWrong_X3_findFewest : GoodIn wsX3_fewestWrong (wsV RX3 122 RX3 yX3_findFewest wsX3_findFewest) := goodIn_app (goodIn_of _ (by decide +kernel)) ggX3_fewestWrong_X3_findFewest
theorem dX3_fewestWrong_0 : decode cX3_fewestWrong 0 = .ok (.aload_n 0, 1) := by decide +kernel
theorem dX3_fewestWrong_1 : decode cX3_fewestWrong 1 = .ok (.getfield 53, 3) := by decide +kernel
theorem dX3_fewestWrong_4 : decode cX3_fewestWrong 4 = .ok (.iconst (-1), 1) := by decide +kernel
theorem dX3_fewestWrong_5 : decode cX3_fewestWrong 5 = .ok (.if_icmp .ne 15, 3) := by decide +kernel
theorem dX3_fewestWrong_8 : decode cX3_fewestWrong 8 = .ok (.aload_n 0, 1) := by decide +kernel
theorem dX3_fewestWrong_9 : decode cX3_fewestWrong 9 = .ok (.invokevirtual 109, 3) := by decide +kernel
theorem dX3_fewestWrong_12 : decode cX3_fewestWrong 12 = .ok (.aload_n 0, 1) := by decide +kernel
theorem dX3_fewestWrong_13 : decode cX3_fewestWrong 13 = .ok (.aload_n 0, 1) := by decide +kernel
theorem dX3_fewestWrong_14 : decode cX3_fewestWrong 14 = .ok (.invokevirtual 122, 3) := by decide +kernel
theorem dX3_fewestWrong_17 : decode cX3_fewestWrong 17 = .ok (.putfield 53, 3) := by decide +kernel
theorem dX3_fewestWrong_20 : decode cX3_fewestWrong 20 = .ok (.aload_n 0, 1) := by decide +kernel
theorem dX3_fewestWrong_21 : decode cX3_fewestWrong 21 = .ok (.getfield 53, 3) := by decide +kernel
theorem dX3_fewestWrong_24 : decode cX3_fewestWrong 24 = .ok (.ireturn, 1) := by decide +kernel
set_option maxRecDepth 20000 in
theorem ggX3_findFewest_J6_bitCount_0f7a4 : GoodIn wsX3_findFewest wsJ6_bitCount_0f7a4 := goodIn_r _ [5, 6, 7, 8] (by decide +kernel) (by decide +kernel)
set_option maxRecDepth 20000 in
theorem gX3_findFewest_J6_bitCount_0f7a4 : GoodIn wsX3_findFewest (va_wsS RX3 125 yJ6_bitCount_0f7a4 wsJ6_bitCount_0f7a4) := goodIn_app (goodIn_of _ (by decide +kernel)) ggX3_findFewest_J6_bitCount_0f7a4
set_option maxRecDepth 20000 in
theorem ggX3_findFewest_X3_isRollFrom : GoodIn wsX3_findFewest wsX3_isRollFrom := goodIn_r _ [12, 1, 13, 14, 15, 16, 17, 18, 9, 10, 11, 19, 20, 21, 22, 23, 24, 25, 26, 27, 28, 29, 30, 31, 32, 33, 34, 35, 36, 37, 38, 39, 40, 41, 42, 43, 44, 45, 46, 47, 48] (by decide +kernel) (by decide +kernel)
set_option maxRecDepth 20000 in
theorem gX3_findFewest_X3_isRollFrom : GoodIn wsX3_findFewest (va_wsS RX3 105 yX3_isRollFrom wsX3_isRollFrom) := goodIn_app (goodIn_of _ (by decide +kernel)) ggX3_findFewest_X3_isRollFrom
theorem dX3_findFewest_0 : decode cX3_findFewest 0 = .ok (.iconst 1, 1) := by decide +kernel
theorem dX3_findFewest_1 : decode cX3_findFewest 1 = .ok (.aload_n 0, 1) := by decide +kernel
theorem dX3_findFewest_2 : decode cX3_findFewest 2 = .ok (.getfield 33, 3) := by decide +kernel
theorem dX3_findFewest_5 : decode cX3_findFewest 5 = .ok (.ishl, 1) := by decide +kernel
theorem dX3_findFewest_6 : decode cX3_findFewest 6 = .ok (.iconst 1, 1) := by decide +kernel
theorem dX3_findFewest_7 : decode cX3_findFewest 7 = .ok (.isub, 1) := by decide +kernel
theorem dX3_findFewest_8 : decode cX3_findFewest 8 = .ok (.istore_n 1, 1) := by decide +kernel
theorem dX3_findFewest_9 : decode cX3_findFewest 9 = .ok (.iconst 0, 1) := by decide +kernel
theorem dX3_findFewest_10 : decode cX3_findFewest 10 = .ok (.istore_n 2, 1) := by decide +kernel
theorem dX3_findFewest_11 : decode cX3_findFewest 11 = .ok (.iload_n 2, 1) := by decide +kernel
theorem dX3_findFewest_12 : decode cX3_findFewest 12 = .ok (.aload_n 0, 1) := by decide +kernel
theorem dX3_findFewest_13 : decode cX3_findFewest 13 = .ok (.getfield 33, 3) := by decide +kernel
theorem dX3_findFewest_16 : decode cX3_findFewest 16 = .ok (.if_icmp .ge 45, 3) := by decide +kernel
theorem dX3_findFewest_19 : decode cX3_findFewest 19 = .ok (.iconst 0, 1) := by decide +kernel
theorem dX3_findFewest_20 : decode cX3_findFewest 20 = .ok (.istore_n 3, 1) := by decide +kernel
theorem dX3_findFewest_21 : decode cX3_findFewest 21 = .ok (.iload_n 3, 1) := by decide +kernel
theorem dX3_findFewest_22 : decode cX3_findFewest 22 = .ok (.iload_n 1, 1) := by decide +kernel
theorem dX3_findFewest_23 : decode cX3_findFewest 23 = .ok (.if_icmp .ge 32, 3) := by decide +kernel
theorem dX3_findFewest_26 : decode cX3_findFewest 26 = .ok (.iload_n 3, 1) := by decide +kernel
theorem dX3_findFewest_27 : decode cX3_findFewest 27 = .ok (.invokestatic 125, 3) := by decide +kernel
theorem dX3_findFewest_30 : decode cX3_findFewest 30 = .ok (.iload_n 2, 1) := by decide +kernel
theorem dX3_findFewest_31 : decode cX3_findFewest 31 = .ok (.if_icmp .ne 18, 3) := by decide +kernel
theorem dX3_findFewest_34 : decode cX3_findFewest 34 = .ok (.aload_n 0, 1) := by decide +kernel
theorem dX3_findFewest_35 : decode cX3_findFewest 35 = .ok (.iconst 0, 1) := by decide +kernel
theorem dX3_findFewest_36 : decode cX3_findFewest 36 = .ok (.iload_n 1, 1) := by decide +kernel
theorem dX3_findFewest_37 : decode cX3_findFewest 37 = .ok (.iload_n 3, 1) := by decide +kernel
theorem dX3_findFewest_38 : decode cX3_findFewest 38 = .ok (.iconst (-1), 1) := by decide +kernel
theorem dX3_findFewest_39 : decode cX3_findFewest 39 = .ok (.ixor, 1) := by decide +kernel
theorem dX3_findFewest_40 : decode cX3_findFewest 40 = .ok (.iand, 1) := by decide +kernel
theorem dX3_findFewest_41 : decode cX3_findFewest 41 = .ok (.invokestatic 105, 3) := by decide +kernel
theorem dX3_findFewest_44 : decode cX3_findFewest 44 = .ok (.ifCond .eq 5, 3) := by decide +kernel
theorem dX3_findFewest_47 : decode cX3_findFewest 47 = .ok (.iload_n 3, 1) := by decide +kernel
theorem dX3_findFewest_48 : decode cX3_findFewest 48 = .ok (.ireturn, 1) := by decide +kernel
theorem dX3_findFewest_49 : decode cX3_findFewest 49 = .ok (.iinc 3 1, 3) := by decide +kernel
theorem dX3_findFewest_52 : decode cX3_findFewest 52 = .ok (.goto (-31), 3) := by decide +kernel
theorem dX3_findFewest_55 : decode cX3_findFewest 55 = .ok (.iinc 2 1, 3) := by decide +kernel
theorem dX3_findFewest_58 : decode cX3_findFewest 58 = .ok (.goto (-47), 3) := by decide +kernel
theorem dX3_findFewest_61 : decode cX3_findFewest 61 = .ok (.iload_n 1, 1) := by decide +kernel
theorem dX3_findFewest_62 : decode cX3_findFewest 62 = .ok (.ireturn, 1) := by decide +kernel
set_option maxRecDepth 20000 in
theorem ggX4_init_X1_init : GoodIn wsX4_init wsX1_init := goodIn_r _ [21, 22, 2, 3, 23, 24, 25, 26, 27, 28, 29, 30, 31, 32, 33, 34, 35, 36, 37, 38, 39, 40, 87, 88, 89, 90, 91, 92, 93, 94, 95, 96, 97, 98, 99, 100, 101, 102] (by decide +kernel) (by decide +kernel)
set_option maxRecDepth 20000 in
theorem gX4_init_X1_init_n9 : GoodIn wsX4_init (wsX1_init) := ggX4_init_X1_init
set_option maxRecDepth 20000 in
theorem ggX4_init_X0_init : GoodIn wsX4_init wsX0_init := goodIn_r _ [42, 43, 2, 3, 23, 44, 45, 46, 47, 48, 107, 108, 109, 110, 111] (by decide +kernel) (by decide +kernel)
set_option maxRecDepth 20000 in
theorem gX4_init_X0_init_n18 : GoodIn wsX4_init (wsX0_init) := ggX4_init_X0_init
set_option maxRecDepth 20000 in
theorem ggX4_init_X2_init : GoodIn wsX4_init wsX2_init := goodIn_r _ [50, 51, 2, 3, 23, 52, 53, 54, 55, 56, 57, 58, 59, 60, 61, 62, 63, 64, 65, 66, 67, 68, 112, 113, 114, 115, 116, 117, 118, 119, 120, 121, 122, 123, 124, 125, 126, 127] (by decide +kernel) (by decide +kernel)
set_option maxRecDepth 20000 in
theorem gX4_init_X2_init_n25 : GoodIn wsX4_init (wsX2_init) := ggX4_init_X2_init
set_option maxRecDepth 20000 in
theorem ggX4_init_X3_init : GoodIn wsX4_init wsX3_init := goodIn_r _ [70, 71, 2, 3, 23, 72, 73, 74, 75, 76, 77, 78, 79, 80, 81, 82, 83, 84, 85, 86, 128, 129, 130, 131, 132, 133, 134, 135, 136, 137, 138, 139, 140, 141] (by decide +kernel) (by decide +kernel)
set_option maxRecDepth 20000 in
theorem gX4_init_X3_init_n32 : GoodIn wsX4_init (wsX3_init) := ggX4_init_X3_init
theorem dX4_init_0 : decode cX4_init 0 = .ok (.aload_n 0, 1) := by decide +kernel
theorem dX4_init_1 : decode cX4_init 1 = .ok (.invokespecial 1, 3) := by decide +kernel
theorem dX4_init_4 : decode cX4_init 4 = .ok (.aload_n 0, 1) := by decide +kernel
theorem dX4_init_5 : decode cX4_init 5 = .ok (.new 7, 3) := by decide +kernel
theorem dX4_init_8 : decode cX4_init 8 = .ok (.dup, 1) := by decide +kernel
theorem dX4_init_9 : decode cX4_init 9 = .ok (.invokespecial 9, 3) := by decide +kernel
theorem dX4_init_12 : decode cX4_init 12 = .ok (.putfield 10, 3) := by decide +kernel
theorem dX4_init_15 : decode cX4_init 15 = .ok (.aload_n 0, 1) := by decide +kernel
theorem dX4_init_16 : decode cX4_init 16 = .ok (.new 16, 3) := by decide +kernel
theorem dX4_init_19 : decode cX4_init 19 = .ok (.dup, 1) := by decide +kernel
theorem dX4_init_20 : decode cX4_init 20 = .ok (.invokespecial 18, 3) := by decide +kernel
theorem dX4_init_23 : decode cX4_init 23 = .ok (.putfield 19, 3) := by decide +kernel
theorem dX4_init_26 : decode cX4_init 26 = .ok (.aload_n 0, 1) := by decide +kernel
theorem dX4_init_27 : decode cX4_init 27 = .ok (.new 23, 3) := by decide +kernel
theorem dX4_init_30 : decode cX4_init 30 = .ok (.dup, 1) := by decide +kernel
theorem dX4_init_31 : decode cX4_init 31 = .ok (.invokespecial 25, 3) := by decide +kernel
theorem dX4_init_34 : decode cX4_init 34 = .ok (.putfield 26, 3) := by decide +kernel
theorem dX4_init_37 : decode cX4_init 37 = .ok (.aload_n 0, 1) := by decide +kernel
theorem dX4_init_38 : decode cX4_init 38 = .ok (.new 30, 3) := by decide +kernel
theorem dX4_init_41 : decode cX4_init 41 = .ok (.dup, 1) := by decide +kernel
theorem dX4_init_42 : decode cX4_init 42 = .ok (.invokespecial 32, 3) := by decide +kernel
theorem dX4_init_45 : decode cX4_init 45 = .ok (.putfield 33, 3) := by decide +kernel
theorem dX4_init_48 : decode cX4_init 48 = .ok (.return_, 1) := by decide +kernel
set_option maxRecDepth 20000 in
theorem ggX4_runner_X1_addRunner : GoodIn wsX4_runner wsX1_addRunner := goodIn_r _ [6, 7, 8, 9, 10, 11, 16, 17, 18, 19, 20, 21, 22, 23, 24, 25, 26, 27, 28, 29, 30, 31] (by decide +kernel) (by decide +kernel)
set_option maxRecDepth 20000 in
theorem gX4_runner_X1_addRunner : GoodIn wsX4_runner (wsV RX4 37 RX1 yX1_addRunner wsX1_addRunner) := goodIn_app (goodIn_of _ (by decide +kernel)) ggX4_runner_X1_addRunner
theorem dX4_runner_0 : decode cX4_runner 0 = .ok (.aload_n 0, 1) := by decide +kernel
theorem dX4_runner_1 : decode cX4_runner 1 = .ok (.getfield 10, 3) := by decide +kernel
theorem dX4_runner_4 : decode cX4_runner 4 = .ok (.iload_n 1, 1) := by decide +kernel
theorem dX4_runner_5 : decode cX4_runner 5 = .ok (.invokevirtual 37, 3) := by decide +kernel
theorem dX4_runner_8 : decode cX4_runner 8 = .ok (.ireturn, 1) := by decide +kernel
set_option maxRecDepth 20000 in
theorem ggX4_judge_X1_addJudge : GoodIn wsX4_judge wsX1_addJudge := goodIn_r _ [6, 7, 8, 9, 10, 11, 16, 17, 18, 19, 20, 21, 22, 23, 24, 25, 26, 27, 28, 29, 30, 31] (by decide +kernel) (by decide +kernel)
set_option maxRecDepth 20000 in
theorem gX4_judge_X1_addJudge : GoodIn wsX4_judge (wsV RX4 41 RX1 yX1_addJudge wsX1_addJudge) := goodIn_app (goodIn_of _ (by decide +kernel)) ggX4_judge_X1_addJudge
theorem dX4_judge_0 : decode cX4_judge 0 = .ok (.aload_n 0, 1) := by decide +kernel
theorem dX4_judge_1 : decode cX4_judge 1 = .ok (.getfield 10, 3) := by decide +kernel
theorem dX4_judge_4 : decode cX4_judge 4 = .ok (.iload_n 1, 1) := by decide +kernel
theorem dX4_judge_5 : decode cX4_judge 5 = .ok (.invokevirtual 41, 3) := by decide +kernel
theorem dX4_judge_8 : decode cX4_judge 8 = .ok (.ireturn, 1) := by decide +kernel
set_option maxRecDepth 20000 in
theorem ggX4_contest_X1_begin : GoodIn wsX4_contest wsX1_begin := goodIn_r _ [6, 7, 8, 9, 10, 11, 12, 13, 14, 15, 16, 5, 17, 18, 19, 20, 21, 22, 23, 24, 25, 26, 27, 28, 29, 30, 31, 32, 33, 34, 35, 36, 37, 38, 39, 40, 41, 42, 43, 44, 45, 46, 47, 48, 49, 50, 51, 56, 57, 58, 59, 60, 61, 62, 63, 64, 65, 66, 67, 68, 69, 70, 71] (by decide +kernel) (by decide +kernel)
set_option maxRecDepth 20000 in
theorem gX4_contest_X1_begin : GoodIn wsX4_contest (wsV RX4 44 RX1 yX1_begin wsX1_begin) := goodIn_app (goodIn_of _ (by decide +kernel)) ggX4_contest_X1_begin
theorem dX4_contest_0 : decode cX4_contest 0 = .ok (.aload_n 0, 1) := by decide +kernel
theorem dX4_contest_1 : decode cX4_contest 1 = .ok (.getfield 10, 3) := by decide +kernel
theorem dX4_contest_4 : decode cX4_contest 4 = .ok (.iload_n 1, 1) := by decide +kernel
theorem dX4_contest_5 : decode cX4_contest 5 = .ok (.iload_n 2, 1) := by decide +kernel
theorem dX4_contest_6 : decode cX4_contest 6 = .ok (.iload_n 3, 1) := by decide +kernel
theorem dX4_contest_7 : decode cX4_contest 7 = .ok (.invokevirtual 44, 3) := by decide +kernel
theorem dX4_contest_10 : decode cX4_contest 10 = .ok (.ireturn, 1) := by decide +kernel
set_option maxRecDepth 20000 in
theorem ggX4_heat_X1_heatOf : GoodIn wsX4_heat wsX1_heatOf := goodIn_r _ [6, 7, 8, 9, 10, 11, 5, 12, 13, 14, 15, 16, 17, 18, 19, 20, 21, 22, 23, 24, 25, 26, 27, 28, 29, 30, 31, 36, 37, 38, 39, 40, 41, 42, 43, 44, 45, 46, 47, 48, 49, 50, 51] (by decide +kernel) (by decide +kernel)
set_option maxRecDepth 20000 in
theorem gX4_heat_X1_heatOf : GoodIn wsX4_heat (wsV RX4 48 RX1 yX1_heatOf wsX1_heatOf) := goodIn_app (goodIn_of _ (by decide +kernel)) ggX4_heat_X1_heatOf
theorem dX4_heat_0 : decode cX4_heat 0 = .ok (.aload_n 0, 1) := by decide +kernel
theorem dX4_heat_1 : decode cX4_heat 1 = .ok (.getfield 10, 3) := by decide +kernel
theorem dX4_heat_4 : decode cX4_heat 4 = .ok (.iload_n 1, 1) := by decide +kernel
theorem dX4_heat_5 : decode cX4_heat 5 = .ok (.invokevirtual 48, 3) := by decide +kernel
theorem dX4_heat_8 : decode cX4_heat 8 = .ok (.ireturn, 1) := by decide +kernel
set_option maxRecDepth 20000 in
theorem ggX4_lane_X1_runnerAt : GoodIn wsX4_lane wsX1_runnerAt := goodIn_r _ [6, 7, 8, 9, 10, 11, 5, 12, 13, 14, 15, 16, 17, 18, 19, 20, 21, 22, 27, 28, 29, 30, 31, 32, 33, 34, 35, 36, 37, 38, 39, 40, 41, 42] (by decide +kernel) (by decide +kernel)
set_option maxRecDepth 20000 in
theorem gX4_lane_X1_runnerAt : GoodIn wsX4_lane (wsV RX4 51 RX1 yX1_runnerAt wsX1_runnerAt) := goodIn_app (goodIn_of _ (by decide +kernel)) ggX4_lane_X1_runnerAt
theorem dX4_lane_0 : decode cX4_lane 0 = .ok (.aload_n 0, 1) := by decide +kernel
theorem dX4_lane_1 : decode cX4_lane 1 = .ok (.getfield 10, 3) := by decide +kernel
theorem dX4_lane_4 : decode cX4_lane 4 = .ok (.iload_n 1, 1) := by decide +kernel
theorem dX4_lane_5 : decode cX4_lane 5 = .ok (.iload_n 2, 1) := by decide +kernel
theorem dX4_lane_6 : decode cX4_lane 6 = .ok (.invokevirtual 51, 3) := by decide +kernel
theorem dX4_lane_9 : decode cX4_lane 9 = .ok (.ireturn, 1) := by decide +kernel
set_option maxRecDepth 20000 in
theorem ggX4_count_X1_tell : GoodIn wsX4_count wsX1_tell := goodIn_r _ [6, 7, 8, 9, 10, 11, 12, 13, 14, 15, 16, 5, 17, 18, 23, 24, 25, 26, 27, 28, 29, 30, 31, 32, 33, 34, 35, 36, 37, 38] (by decide +kernel) (by decide +kernel)
set_option maxRecDepth 20000 in
theorem gX4_count_X1_tell : GoodIn wsX4_count (wsV RX4 55 RX1 yX1_tell wsX1_tell) := goodIn_app (goodIn_of _ (by decide +kernel)) ggX4_count_X1_tell
theorem dX4_count_0 : decode cX4_count 0 = .ok (.aload_n 0, 1) := by decide +kernel
theorem dX4_count_1 : decode cX4_count 1 = .ok (.getfield 10, 3) := by decide +kernel
theorem dX4_count_4 : decode cX4_count 4 = .ok (.iload_n 1, 1) := by decide +kernel
theorem dX4_count_5 : decode cX4_count 5 = .ok (.invokevirtual 55, 3) := by decide +kernel
theorem dX4_count_8 : decode cX4_count 8 = .ok (.ireturn, 1) := by decide +kernel
set_option maxRecDepth 20000 in
theorem ggX4_winner_X1_setWinner : GoodIn wsX4_winner wsX1_setWinner := goodIn_r _ [6, 7, 8, 9, 10, 11, 5, 12, 13, 14, 15, 16, 17, 18, 19, 20, 21, 22, 23, 24, 25, 26, 27, 28, 29, 30, 31, 32, 37, 38, 39, 40, 41, 42, 43, 44, 45, 46, 47, 48, 49, 50, 51, 52] (by decide +kernel) (by decide +kernel)
set_option maxRecDepth 20000 in
theorem gX4_winner_X1_setWinner : GoodIn wsX4_winner (wsV RX4 58 RX1 yX1_setWinner wsX1_setWinner) := goodIn_app (goodIn_of _ (by decide +kernel)) ggX4_winner_X1_setWinner
theorem dX4_winner_0 : decode cX4_winner 0 = .ok (.aload_n 0, 1) := by decide +kernel
theorem dX4_winner_1 : decode cX4_winner 1 = .ok (.getfield 10, 3) := by decide +kernel
theorem dX4_winner_4 : decode cX4_winner 4 = .ok (.iload_n 1, 1) := by decide +kernel
theorem dX4_winner_5 : decode cX4_winner 5 = .ok (.iload_n 2, 1) := by decide +kernel
theorem dX4_winner_6 : decode cX4_winner 6 = .ok (.invokevirtual 58, 3) := by decide +kernel
theorem dX4_winner_9 : decode cX4_winner 9 = .ok (.ireturn, 1) := by decide +kernel
set_option maxRecDepth 20000 in
theorem ggX4_vote_X1_castVote : GoodIn wsX4_vote wsX1_castVote := goodIn_r _ [6, 7, 8, 9, 10, 11, 12, 5, 13, 14, 15, 16, 17, 18, 19, 20, 21, 22, 23, 24, 25, 26, 27, 28, 29, 30, 31, 32, 33, 38, 39, 40, 41, 42, 43, 44, 45, 46, 47, 48, 49, 50, 51, 52, 53] (by decide +kernel) (by decide +kernel)
set_option maxRecDepth 20000 in
theorem gX4_vote_X1_castVote : GoodIn wsX4_vote (wsV RX4 62 RX1 yX1_castVote wsX1_castVote) := goodIn_app (goodIn_of _ (by decide +kernel)) ggX4_vote_X1_castVote
theorem dX4_vote_0 : decode cX4_vote 0 = .ok (.aload_n 0, 1) := by decide +kernel
theorem dX4_vote_1 : decode cX4_vote 1 = .ok (.getfield 10, 3) := by decide +kernel
theorem dX4_vote_4 : decode cX4_vote 4 = .ok (.iload_n 1, 1) := by decide +kernel
theorem dX4_vote_5 : decode cX4_vote 5 = .ok (.iload_n 2, 1) := by decide +kernel
theorem dX4_vote_6 : decode cX4_vote 6 = .ok (.iload_n 3, 1) := by decide +kernel
theorem dX4_vote_7 : decode cX4_vote 7 = .ok (.invokevirtual 62, 3) := by decide +kernel
theorem dX4_vote_10 : decode cX4_vote 10 = .ok (.ireturn, 1) := by decide +kernel
set_option maxRecDepth 20000 in
theorem ggX4_decide_X1_decideByVotes : GoodIn wsX4_decide wsX1_decideByVotes := goodIn_r _ [6, 7, 8, 9, 10, 11, 5, 12, 13, 14, 15, 16, 17, 18, 19, 20, 21, 22, 23, 24, 25, 26, 27, 28, 29, 30, 31, 32, 33, 34, 35, 36, 37, 38, 39, 40, 45, 46, 47, 48, 49, 50, 51, 52, 53, 54, 55, 56, 57, 58, 59, 60] (by decide +kernel) (by decide +kernel)
set_option maxRecDepth 20000 in
theorem gX4_decide_X1_decideByVotes : GoodIn wsX4_decide (wsV RX4 66 RX1 yX1_decideByVotes wsX1_decideByVotes) := goodIn_app (goodIn_of _ (by decide +kernel)) ggX4_decide_X1_decideByVotes
theorem dX4_decide_0 : decode cX4_decide 0 = .ok (.aload_n 0, 1) := by decide +kernel
theorem dX4_decide_1 : decode cX4_decide 1 = .ok (.getfield 10, 3) := by decide +kernel
theorem dX4_decide_4 : decode cX4_decide 4 = .ok (.iload_n 1, 1) := by decide +kernel
theorem dX4_decide_5 : decode cX4_decide 5 = .ok (.invokevirtual 66, 3) := by decide +kernel
theorem dX4_decide_8 : decode cX4_decide 8 = .ok (.ireturn, 1) := by decide +kernel
set_option maxRecDepth 20000 in
theorem ggX4_next_X1_goOn : GoodIn wsX4_next wsX1_goOn := goodIn_r _ [6, 7, 8, 9, 10, 11, 12, 13, 5, 14, 15, 16, 17, 18, 19, 20, 21, 22, 23, 24, 25, 26, 27, 28, 29, 30, 31, 32, 33, 34, 35, 36, 37, 38, 39, 40, 41, 42, 43, 44, 45, 46, 47, 48, 49, 50, 51, 52, 53, 54, 55, 56, 57, 58, 59, 64, 65, 66, 67, 68, 69, 70, 71, 72, 73, 74, 75, 76, 77, 78, 79] (by decide +kernel) (by decide +kernel)
set_option maxRecDepth 20000 in
theorem gX4_next_X1_goOn : GoodIn wsX4_next (wsV RX4 69 RX1 yX1_goOn wsX1_goOn) := goodIn_app (goodIn_of _ (by decide +kernel)) ggX4_next_X1_goOn
theorem dX4_next_0 : decode cX4_next 0 = .ok (.aload_n 0, 1) := by decide +kernel
theorem dX4_next_1 : decode cX4_next 1 = .ok (.getfield 10, 3) := by decide +kernel
theorem dX4_next_4 : decode cX4_next 4 = .ok (.invokevirtual 69, 3) := by decide +kernel
theorem dX4_next_7 : decode cX4_next 7 = .ok (.ireturn, 1) := by decide +kernel
set_option maxRecDepth 20000 in
theorem ggX4_five_X0_begin : GoodIn wsX4_five wsX0_begin := goodIn_r _ [6, 7, 8, 9, 10, 11, 12, 13, 14, 15, 20, 21, 22, 23, 24] (by decide +kernel) (by decide +kernel)
set_option maxRecDepth 20000 in
theorem gX4_five_X0_begin : GoodIn wsX4_five (wsV RX4 73 RX0 yX0_begin wsX0_begin) := goodIn_app (goodIn_of _ (by decide +kernel)) ggX4_five_X0_begin
theorem dX4_five_0 : decode cX4_five 0 = .ok (.aload_n 0, 1) := by decide +kernel
theorem dX4_five_1 : decode cX4_five 1 = .ok (.getfield 19, 3) := by decide +kernel
theorem dX4_five_4 : decode cX4_five 4 = .ok (.iload_n 1, 1) := by decide +kernel
theorem dX4_five_5 : decode cX4_five 5 = .ok (.invokevirtual 73, 3) := by decide +kernel
theorem dX4_five_8 : decode cX4_five 8 = .ok (.ireturn, 1) := by decide +kernel
set_option maxRecDepth 20000 in
theorem ggX4_event_X0_tellOrder : GoodIn wsX4_event wsX0_tellOrder := goodIn_r _ [6, 7, 8, 9, 10, 11, 12, 13, 14, 5, 15, 16, 17, 18, 19, 20, 21, 22, 23, 24, 25, 30, 31, 32, 33, 34] (by decide +kernel) (by decide +kernel)
set_option maxRecDepth 20000 in
theorem gX4_event_X0_tellOrder : GoodIn wsX4_event (wsV RX4 76 RX0 yX0_tellOrder wsX0_tellOrder) := goodIn_app (goodIn_of _ (by decide +kernel)) ggX4_event_X0_tellOrder
theorem dX4_event_0 : decode cX4_event 0 = .ok (.aload_n 0, 1) := by decide +kernel
theorem dX4_event_1 : decode cX4_event 1 = .ok (.getfield 19, 3) := by decide +kernel
theorem dX4_event_4 : decode cX4_event 4 = .ok (.iload_n 1, 1) := by decide +kernel
theorem dX4_event_5 : decode cX4_event 5 = .ok (.invokevirtual 76, 3) := by decide +kernel
theorem dX4_event_8 : decode cX4_event 8 = .ok (.ireturn, 1) := by decide +kernel
set_option maxRecDepth 20000 in
theorem ggX4_athlete_X0_tell : GoodIn wsX4_athlete wsX0_tell := goodIn_r _ [6, 7, 8, 9, 10, 11, 12, 5, 13, 14, 15, 16, 17, 18, 23, 24, 25, 26, 27] (by decide +kernel) (by decide +kernel)
set_option maxRecDepth 20000 in
theorem gX4_athlete_X0_tell : GoodIn wsX4_athlete (wsV RX4 79 RX0 yX0_tell wsX0_tell) := goodIn_app (goodIn_of _ (by decide +kernel)) ggX4_athlete_X0_tell
theorem dX4_athlete_0 : decode cX4_athlete 0 = .ok (.aload_n 0, 1) := by decide +kernel
theorem dX4_athlete_1 : decode cX4_athlete 1 = .ok (.getfield 19, 3) := by decide +kernel
theorem dX4_athlete_4 : decode cX4_athlete 4 = .ok (.iload_n 1, 1) := by decide +kernel
theorem dX4_athlete_5 : decode cX4_athlete 5 = .ok (.iload_n 2, 1) := by decide +kernel
theorem dX4_athlete_6 : decode cX4_athlete 6 = .ok (.invokevirtual 79, 3) := by decide +kernel
theorem dX4_athlete_9 : decode cX4_athlete 9 = .ok (.ireturn, 1) := by decide +kernel
set_option maxRecDepth 20000 in
theorem ggX4_won_X0_champion : GoodIn wsX4_won wsX0_champion := goodIn_r _ [6, 7, 12, 13, 14, 15, 16] (by decide +kernel) (by decide +kernel)
set_option maxRecDepth 20000 in
theorem gX4_won_X0_champion : GoodIn wsX4_won (wsV RX4 81 RX0 yX0_champion wsX0_champion) := goodIn_app (goodIn_of _ (by decide +kernel)) ggX4_won_X0_champion
theorem dX4_won_0 : decode cX4_won 0 = .ok (.aload_n 0, 1) := by decide +kernel
theorem dX4_won_1 : decode cX4_won 1 = .ok (.getfield 19, 3) := by decide +kernel
theorem dX4_won_4 : decode cX4_won 4 = .ok (.invokevirtual 81, 3) := by decide +kernel
theorem dX4_won_7 : decode cX4_won 7 = .ok (.ireturn, 1) := by decide +kernel
set_option maxRecDepth 20000 in
theorem ggX4_track_X2_layOut : GoodIn wsX4_track wsX2_layOut := goodIn_r _ [6, 7, 8, 9, 10, 11, 12, 17, 18, 19, 20, 21, 22, 23, 24, 25, 26, 27, 28, 29, 30, 31, 32] (by decide +kernel) (by decide +kernel)
set_option maxRecDepth 20000 in
theorem gX4_track_X2_layOut : GoodIn wsX4_track (wsV RX4 84 RX2 yX2_layOut wsX2_layOut) := goodIn_app (goodIn_of _ (by decide +kernel)) ggX4_track_X2_layOut
theorem dX4_track_0 : decode cX4_track 0 = .ok (.aload_n 0, 1) := by decide +kernel
theorem dX4_track_1 : decode cX4_track 1 = .ok (.getfield 26, 3) := by decide +kernel
theorem dX4_track_4 : decode cX4_track 4 = .ok (.iload_n 1, 1) := by decide +kernel
theorem dX4_track_5 : decode cX4_track 5 = .ok (.iload_n 2, 1) := by decide +kernel
theorem dX4_track_6 : decode cX4_track 6 = .ok (.iload_n 3, 1) := by decide +kernel
theorem dX4_track_7 : decode cX4_track 7 = .ok (.invokevirtual 84, 3) := by decide +kernel
theorem dX4_track_10 : decode cX4_track 10 = .ok (.ireturn, 1) := by decide +kernel
set_option maxRecDepth 20000 in
theorem ggX4_chariot_X2_addChariot : GoodIn wsX4_chariot wsX2_addChariot := goodIn_r _ [6, 7, 8, 9, 10, 11, 12, 13, 14, 15, 16, 17, 18, 19, 20, 5, 21, 26, 27, 28, 29, 30, 31, 32, 33, 34, 35, 36, 37, 38, 39, 40, 41] (by decide +kernel) (by decide +kernel)
set_option maxRecDepth 20000 in
theorem gX4_chariot_X2_addChariot : GoodIn wsX4_chariot (wsV RX4 87 RX2 yX2_addChariot wsX2_addChariot) := goodIn_app (goodIn_of _ (by decide +kernel)) ggX4_chariot_X2_addChariot
theorem dX4_chariot_0 : decode cX4_chariot 0 = .ok (.aload_n 0, 1) := by decide +kernel
theorem dX4_chariot_1 : decode cX4_chariot 1 = .ok (.getfield 26, 3) := by decide +kernel
theorem dX4_chariot_4 : decode cX4_chariot 4 = .ok (.iload_n 1, 1) := by decide +kernel
theorem dX4_chariot_5 : decode cX4_chariot 5 = .ok (.iload_n 2, 1) := by decide +kernel
theorem dX4_chariot_6 : decode cX4_chariot 6 = .ok (.invokevirtual 87, 3) := by decide +kernel
theorem dX4_chariot_9 : decode cX4_chariot 9 = .ok (.ireturn, 1) := by decide +kernel
set_option maxRecDepth 20000 in
theorem ggX4_drive_X2_addAct : GoodIn wsX4_drive wsX2_addAct := goodIn_r _ [6, 7, 8, 9, 10, 11, 12, 13, 5, 14, 15, 20, 21, 22, 23, 24, 25, 26, 27, 28, 29, 30, 31, 32, 33, 34, 35] (by decide +kernel) (by decide +kernel)
set_option maxRecDepth 20000 in
theorem gX4_drive_X2_addAct : GoodIn wsX4_drive (wsV RX4 90 RX2 yX2_addAct wsX2_addAct) := goodIn_app (goodIn_of _ (by decide +kernel)) ggX4_drive_X2_addAct
theorem dX4_drive_0 : decode cX4_drive 0 = .ok (.aload_n 0, 1) := by decide +kernel
theorem dX4_drive_1 : decode cX4_drive 1 = .ok (.getfield 26, 3) := by decide +kernel
theorem dX4_drive_4 : decode cX4_drive 4 = .ok (.iload_n 1, 1) := by decide +kernel
theorem dX4_drive_5 : decode cX4_drive 5 = .ok (.iload_n 2, 1) := by decide +kernel
theorem dX4_drive_6 : decode cX4_drive 6 = .ok (.iload_n 3, 1) := by decide +kernel
theorem dX4_drive_7 : decode cX4_drive 7 = .ok (.invokevirtual 90, 3) := by decide +kernel
theorem dX4_drive_10 : decode cX4_drive 10 = .ok (.ireturn, 1) := by decide +kernel
set_option maxRecDepth 20000 in
theorem ggX4_run_X2_pass : GoodIn wsX4_run wsX2_pass := goodIn_r _ [6, 7, 8, 9, 10, 11, 12, 5, 13, 14, 15, 16, 17, 18, 19, 20, 21, 22, 23, 24, 25, 26, 27, 28, 29, 30, 31, 32, 33, 34, 35, 36, 37, 38, 39, 40, 41, 42, 43, 44, 45, 46, 47, 48, 49, 50, 51, 52, 53, 54, 55, 56, 57, 58, 59, 60, 61, 66, 67, 68, 69, 70, 71, 72, 73, 74, 75, 76, 77, 78, 79, 80, 81] (by decide +kernel) (by decide +kernel)
set_option maxRecDepth 20000 in
theorem gX4_run_X2_pass : GoodIn wsX4_run (wsV RX4 93 RX2 yX2_pass wsX2_pass) := goodIn_app (goodIn_of _ (by decide +kernel)) ggX4_run_X2_pass
theorem dX4_run_0 : decode cX4_run 0 = .ok (.aload_n 0, 1) := by decide +kernel
theorem dX4_run_1 : decode cX4_run 1 = .ok (.getfield 26, 3) := by decide +kernel
theorem dX4_run_4 : decode cX4_run 4 = .ok (.iload_n 1, 1) := by decide +kernel
theorem dX4_run_5 : decode cX4_run 5 = .ok (.invokevirtual 93, 3) := by decide +kernel
theorem dX4_run_8 : decode cX4_run 8 = .ok (.ireturn, 1) := by decide +kernel
set_option maxRecDepth 20000 in
theorem ggX4_at_X2_tell : GoodIn wsX4_at wsX2_tell := goodIn_r _ [6, 7, 8, 9, 10, 11, 12, 13, 14, 15, 5, 16, 17, 22, 23, 24, 25, 26, 27, 28, 29, 30, 31, 32, 33, 34, 35, 36, 37] (by decide +kernel) (by decide +kernel)
set_option maxRecDepth 20000 in
theorem gX4_at_X2_tell : GoodIn wsX4_at (wsV RX4 96 RX2 yX2_tell wsX2_tell) := goodIn_app (goodIn_of _ (by decide +kernel)) ggX4_at_X2_tell
theorem dX4_at_0 : decode cX4_at 0 = .ok (.aload_n 0, 1) := by decide +kernel
theorem dX4_at_1 : decode cX4_at 1 = .ok (.getfield 26, 3) := by decide +kernel
theorem dX4_at_4 : decode cX4_at 4 = .ok (.iload_n 1, 1) := by decide +kernel
theorem dX4_at_5 : decode cX4_at 5 = .ok (.iload_n 2, 1) := by decide +kernel
theorem dX4_at_6 : decode cX4_at 6 = .ok (.invokevirtual 96, 3) := by decide +kernel
theorem dX4_at_9 : decode cX4_at 9 = .ok (.ireturn, 1) := by decide +kernel
set_option maxRecDepth 20000 in
theorem ggX4_stone_X3_addStone : GoodIn wsX4_stone wsX3_addStone := goodIn_r _ [6, 7, 8, 9, 10, 11, 12, 13, 14, 15, 16, 5, 17, 18, 19, 20, 21, 22, 23, 24, 25, 26, 27, 28, 29, 30, 31, 32, 37, 38, 39, 40, 41, 42, 43, 44, 45, 46, 47, 48, 49, 50] (by decide +kernel) (by decide +kernel)
set_option maxRecDepth 20000 in
theorem gX4_stone_X3_addStone : GoodIn wsX4_stone (wsV RX4 97 RX3 yX3_addStone wsX3_addStone) := goodIn_app (goodIn_of _ (by decide +kernel)) ggX4_stone_X3_addStone
theorem dX4_stone_0 : decode cX4_stone 0 = .ok (.aload_n 0, 1) := by decide +kernel
theorem dX4_stone_1 : decode cX4_stone 1 = .ok (.getfield 33, 3) := by decide +kernel
theorem dX4_stone_4 : decode cX4_stone 4 = .ok (.iload_n 1, 1) := by decide +kernel
theorem dX4_stone_5 : decode cX4_stone 5 = .ok (.iload_n 2, 1) := by decide +kernel
theorem dX4_stone_6 : decode cX4_stone 6 = .ok (.iload_n 3, 1) := by decide +kernel
theorem dX4_stone_7 : decode cX4_stone 7 = .ok (.iload 4, 2) := by decide +kernel
theorem dX4_stone_9 : decode cX4_stone 9 = .ok (.iload 5, 2) := by decide +kernel
theorem dX4_stone_11 : decode cX4_stone 11 = .ok (.iload 6, 2) := by decide +kernel
theorem dX4_stone_13 : decode cX4_stone 13 = .ok (.invokevirtual 97, 3) := by decide +kernel
theorem dX4_stone_16 : decode cX4_stone 16 = .ok (.ireturn, 1) := by decide +kernel
set_option maxRecDepth 20000 in
theorem ggX4_join_X3_setJoined : GoodIn wsX4_join wsX3_setJoined := goodIn_r _ [6, 7, 8, 9, 10, 5, 11, 12, 13, 14, 15, 16, 17, 18, 23, 24, 25, 26, 27, 28, 29, 30, 31, 32, 33, 34, 35, 36] (by decide +kernel) (by decide +kernel)
set_option maxRecDepth 20000 in
theorem gX4_join_X3_setJoined : GoodIn wsX4_join (wsV RX4 101 RX3 yX3_setJoined wsX3_setJoined) := goodIn_app (goodIn_of _ (by decide +kernel)) ggX4_join_X3_setJoined
theorem dX4_join_0 : decode cX4_join 0 = .ok (.aload_n 0, 1) := by decide +kernel
theorem dX4_join_1 : decode cX4_join 1 = .ok (.getfield 33, 3) := by decide +kernel
theorem dX4_join_4 : decode cX4_join 4 = .ok (.iload_n 1, 1) := by decide +kernel
theorem dX4_join_5 : decode cX4_join 5 = .ok (.iload_n 2, 1) := by decide +kernel
theorem dX4_join_6 : decode cX4_join 6 = .ok (.iload_n 3, 1) := by decide +kernel
theorem dX4_join_7 : decode cX4_join 7 = .ok (.invokevirtual 101, 3) := by decide +kernel
theorem dX4_join_10 : decode cX4_join 10 = .ok (.ireturn, 1) := by decide +kernel
set_option maxRecDepth 20000 in
theorem ggX4_span_X3_setSpan : GoodIn wsX4_span wsX3_setSpan := goodIn_r _ [6, 7, 8, 9, 10, 5, 11, 12, 13, 18, 19, 20, 21, 22, 23, 24, 25, 26, 27, 28, 29, 30, 31] (by decide +kernel) (by decide +kernel)
set_option maxRecDepth 20000 in
theorem gX4_span_X3_setSpan : GoodIn wsX4_span (wsV RX4 105 RX3 yX3_setSpan wsX3_setSpan) := goodIn_app (goodIn_of _ (by decide +kernel)) ggX4_span_X3_setSpan
theorem dX4_span_0 : decode cX4_span 0 = .ok (.aload_n 0, 1) := by decide +kernel
theorem dX4_span_1 : decode cX4_span 1 = .ok (.getfield 33, 3) := by decide +kernel
theorem dX4_span_4 : decode cX4_span 4 = .ok (.iload_n 1, 1) := by decide +kernel
theorem dX4_span_5 : decode cX4_span 5 = .ok (.invokevirtual 105, 3) := by decide +kernel
theorem dX4_span_8 : decode cX4_span 8 = .ok (.ireturn, 1) := by decide +kernel
set_option maxRecDepth 20000 in
theorem ggX4_lose_X3_breakUp : GoodIn wsX4_lose wsX3_breakUp := goodIn_r _ [6, 7, 8, 9, 10, 11, 12, 13, 14, 15, 16, 17, 5, 18, 19, 20, 21, 22, 23, 24, 25, 26, 27, 32, 33, 34, 35, 36, 37, 38, 39, 40, 41, 42, 43, 44, 45] (by decide +kernel) (by decide +kernel)
set_option maxRecDepth 20000 in
theorem gX4_lose_X3_breakUp : GoodIn wsX4_lose (wsV RX4 108 RX3 yX3_breakUp wsX3_breakUp) := goodIn_app (goodIn_of _ (by decide +kernel)) ggX4_lose_X3_breakUp
theorem dX4_lose_0 : decode cX4_lose 0 = .ok (.aload_n 0, 1) := by decide +kernel
theorem dX4_lose_1 : decode cX4_lose 1 = .ok (.getfield 33, 3) := by decide +kernel
theorem dX4_lose_4 : decode cX4_lose 4 = .ok (.iload_n 1, 1) := by decide +kernel
theorem dX4_lose_5 : decode cX4_lose 5 = .ok (.invokevirtual 108, 3) := by decide +kernel
theorem dX4_lose_8 : decode cX4_lose 8 = .ok (.ireturn, 1) := by decide +kernel
set_option maxRecDepth 20000 in
theorem ggX4_agree_X3_tellAgreeing : GoodIn wsX4_agree wsX3_tellAgreeing := goodIn_r _ [6, 7, 8, 9, 5, 10, 11, 12, 13, 14, 15, 16, 17, 18, 19, 20, 21, 22, 23, 24, 25, 30, 31, 32, 33, 34, 35, 36, 37, 38, 39, 40, 41, 42, 43] (by decide +kernel) (by decide +kernel)
set_option maxRecDepth 20000 in
theorem gX4_agree_X3_tellAgreeing : GoodIn wsX4_agree (wsV RX4 111 RX3 yX3_tellAgreeing wsX3_tellAgreeing) := goodIn_app (goodIn_of _ (by decide +kernel)) ggX4_agree_X3_tellAgreeing
theorem dX4_agree_0 : decode cX4_agree 0 = .ok (.aload_n 0, 1) := by decide +kernel
theorem dX4_agree_1 : decode cX4_agree 1 = .ok (.getfield 33, 3) := by decide +kernel
theorem dX4_agree_4 : decode cX4_agree 4 = .ok (.iload_n 1, 1) := by decide +kernel
theorem dX4_agree_5 : decode cX4_agree 5 = .ok (.iload_n 2, 1) := by decide +kernel
theorem dX4_agree_6 : decode cX4_agree 6 = .ok (.invokevirtual 111, 3) := by decide +kernel
theorem dX4_agree_9 : decode cX4_agree 9 = .ok (.ireturn, 1) := by decide +kernel
set_option maxRecDepth 20000 in
theorem ggX4_rolls_X3_countRolls : GoodIn wsX4_rolls wsX3_countRolls := goodIn_r _ [6, 7, 8, 9, 10, 11, 5, 12, 13, 14, 15, 16, 17, 18, 19, 20, 21, 22, 23, 24, 25, 26, 27, 28, 29, 30, 31, 32, 33, 34, 35, 36, 37, 38, 39, 40, 41, 42, 43, 44, 45, 46, 47, 48, 49, 50, 51, 52, 53, 54, 55, 56, 61, 62, 63, 64, 65, 66, 67, 68, 69, 70, 71, 72, 73, 74] (by decide +kernel) (by decide +kernel)
set_option maxRecDepth 20000 in
theorem gX4_rolls_X3_countRolls : GoodIn wsX4_rolls (wsV RX4 114 RX3 yX3_countRolls wsX3_countRolls) := goodIn_app (goodIn_of _ (by decide +kernel)) ggX4_rolls_X3_countRolls
theorem dX4_rolls_0 : decode cX4_rolls 0 = .ok (.aload_n 0, 1) := by decide +kernel
theorem dX4_rolls_1 : decode cX4_rolls 1 = .ok (.getfield 33, 3) := by decide +kernel
theorem dX4_rolls_4 : decode cX4_rolls 4 = .ok (.invokevirtual 114, 3) := by decide +kernel
theorem dX4_rolls_7 : decode cX4_rolls 7 = .ok (.ireturn, 1) := by decide +kernel
set_option maxRecDepth 20000 in
theorem ggX4_year_X3_tellYear : GoodIn wsX4_year wsX3_tellYear := goodIn_r _ [6, 7, 8, 9, 10, 11, 12, 5, 13, 14, 15, 16, 17, 18, 19, 20, 21, 22, 23, 24, 25, 26, 27, 28, 29, 30, 31, 32, 33, 34, 35, 36, 37, 38, 39, 40, 41, 42, 43, 44, 45, 46, 47, 48, 49, 50, 51, 52, 53, 54, 55, 56, 57, 58, 59, 60, 61, 62, 63, 64, 69, 70, 71, 72, 73, 74, 75, 76, 77, 78, 79, 80, 81, 82] (by decide +kernel) (by decide +kernel)
set_option maxRecDepth 20000 in
theorem gX4_year_X3_tellYear : GoodIn wsX4_year (wsV RX4 117 RX3 yX3_tellYear wsX3_tellYear) := goodIn_app (goodIn_of _ (by decide +kernel)) ggX4_year_X3_tellYear
theorem dX4_year_0 : decode cX4_year 0 = .ok (.aload_n 0, 1) := by decide +kernel
theorem dX4_year_1 : decode cX4_year 1 = .ok (.getfield 33, 3) := by decide +kernel
theorem dX4_year_4 : decode cX4_year 4 = .ok (.iload_n 1, 1) := by decide +kernel
theorem dX4_year_5 : decode cX4_year 5 = .ok (.iload_n 2, 1) := by decide +kernel
theorem dX4_year_6 : decode cX4_year 6 = .ok (.invokevirtual 117, 3) := by decide +kernel
theorem dX4_year_9 : decode cX4_year 9 = .ok (.ireturn, 1) := by decide +kernel
set_option maxRecDepth 20000 in
theorem ggX4_wrong_X3_fewestWrong : GoodIn wsX4_wrong wsX3_fewestWrong := goodIn_r _ [6, 7, 8, 9, 10, 5, 11, 12, 13, 14, 15, 16, 17, 18, 19, 20, 21, 22, 23, 24, 25, 26, 27, 28, 29, 30, 31, 32, 33, 34, 35, 36, 37, 38, 39, 40, 41, 42, 43, 44, 45, 46, 47, 48, 49, 50, 51, 52, 53, 54, 55, 56, 57, 58, 59, 60, 61, 62, 67, 68, 69, 70, 71, 72, 73, 74, 75, 76, 77, 78, 79, 80] (by decide +kernel) (by decide +kernel)
set_option maxRecDepth 20000 in
theorem gX4_wrong_X3_fewestWrong : GoodIn wsX4_wrong (wsV RX4 120 RX3 yX3_fewestWrong wsX3_fewestWrong) := goodIn_app (goodIn_of _ (by decide +kernel)) ggX4_wrong_X3_fewestWrong
theorem dX4_wrong_0 : decode cX4_wrong 0 = .ok (.aload_n 0, 1) := by decide +kernel
theorem dX4_wrong_1 : decode cX4_wrong 1 = .ok (.getfield 33, 3) := by decide +kernel
theorem dX4_wrong_4 : decode cX4_wrong 4 = .ok (.invokevirtual 120, 3) := by decide +kernel
theorem dX4_wrong_7 : decode cX4_wrong 7 = .ok (.ireturn, 1) := by decide +kernel
set_option maxRecDepth 20000 in
theorem ggX4_letter_X3_tellLetter : GoodIn wsX4_letter wsX3_tellLetter := goodIn_r _ [6, 7, 8, 9, 5, 10, 11, 12, 13, 14, 15, 16, 17, 18, 19, 20, 25, 26, 27, 28, 29, 30, 31, 32, 33, 34, 35, 36, 37, 38] (by decide +kernel) (by decide +kernel)
set_option maxRecDepth 20000 in
theorem gX4_letter_X3_tellLetter : GoodIn wsX4_letter (wsV RX4 123 RX3 yX3_tellLetter wsX3_tellLetter) := goodIn_app (goodIn_of _ (by decide +kernel)) ggX4_letter_X3_tellLetter
theorem dX4_letter_0 : decode cX4_letter 0 = .ok (.aload_n 0, 1) := by decide +kernel
theorem dX4_letter_1 : decode cX4_letter 1 = .ok (.getfield 33, 3) := by decide +kernel
theorem dX4_letter_4 : decode cX4_letter 4 = .ok (.iload_n 1, 1) := by decide +kernel
theorem dX4_letter_5 : decode cX4_letter 5 = .ok (.iload_n 2, 1) := by decide +kernel
theorem dX4_letter_6 : decode cX4_letter 6 = .ok (.invokevirtual 123, 3) := by decide +kernel
theorem dX4_letter_9 : decode cX4_letter 9 = .ok (.ireturn, 1) := by decide +kernel
theorem dX4_isTown_0 : decode cX4_isTown 0 = .ok (.iload_n 0, 1) := by decide +kernel
theorem dX4_isTown_1 : decode cX4_isTown 1 = .ok (.ifCond .lt 13, 3) := by decide +kernel
theorem dX4_isTown_4 : decode cX4_isTown 4 = .ok (.iload_n 0, 1) := by decide +kernel
theorem dX4_isTown_5 : decode cX4_isTown 5 = .ok (.bipush 10, 2) := by decide +kernel
theorem dX4_isTown_7 : decode cX4_isTown 7 = .ok (.if_icmp .ge 7, 3) := by decide +kernel
theorem dX4_isTown_10 : decode cX4_isTown 10 = .ok (.iconst 1, 1) := by decide +kernel
theorem dX4_isTown_11 : decode cX4_isTown 11 = .ok (.goto 4, 3) := by decide +kernel
theorem dX4_isTown_14 : decode cX4_isTown 14 = .ok (.iconst 0, 1) := by decide +kernel
theorem dX4_isTown_15 : decode cX4_isTown 15 = .ok (.ireturn, 1) := by decide +kernel
theorem dX4_hasBit_0 : decode cX4_hasBit 0 = .ok (.iload_n 0, 1) := by decide +kernel
theorem dX4_hasBit_1 : decode cX4_hasBit 1 = .ok (.iload_n 1, 1) := by decide +kernel
theorem dX4_hasBit_2 : decode cX4_hasBit 2 = .ok (.iushr, 1) := by decide +kernel
theorem dX4_hasBit_3 : decode cX4_hasBit 3 = .ok (.iconst 1, 1) := by decide +kernel
theorem dX4_hasBit_4 : decode cX4_hasBit 4 = .ok (.iand, 1) := by decide +kernel
theorem dX4_hasBit_5 : decode cX4_hasBit 5 = .ok (.ifCond .eq 7, 3) := by decide +kernel
theorem dX4_hasBit_8 : decode cX4_hasBit 8 = .ok (.iconst 1, 1) := by decide +kernel
theorem dX4_hasBit_9 : decode cX4_hasBit 9 = .ok (.goto 4, 3) := by decide +kernel
theorem dX4_hasBit_12 : decode cX4_hasBit 12 = .ok (.iconst 0, 1) := by decide +kernel
theorem dX4_hasBit_13 : decode cX4_hasBit 13 = .ok (.ireturn, 1) := by decide +kernel
