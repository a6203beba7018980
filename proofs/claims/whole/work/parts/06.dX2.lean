theorem dX2_init_0 : decode cX2_init 0 = .ok (.aload_n 0, 1) := by decide +kernel
theorem dX2_init_1 : decode cX2_init 1 = .ok (.invokespecial 3, 3) := by decide +kernel
theorem dX2_init_4 : decode cX2_init 4 = .ok (.aload_n 0, 1) := by decide +kernel
theorem dX2_init_5 : decode cX2_init 5 = .ok (.bipush 8, 2) := by decide +kernel
theorem dX2_init_7 : decode cX2_init 7 = .ok (.newarray .int, 2) := by decide +kernel
theorem dX2_init_9 : decode cX2_init 9 = .ok (.putfield 11, 3) := by decide +kernel
theorem dX2_init_12 : decode cX2_init 12 = .ok (.aload_n 0, 1) := by decide +kernel
theorem dX2_init_13 : decode cX2_init 13 = .ok (.bipush 8, 2) := by decide +kernel
theorem dX2_init_15 : decode cX2_init 15 = .ok (.newarray .int, 2) := by decide +kernel
theorem dX2_init_17 : decode cX2_init 17 = .ok (.putfield 15, 3) := by decide +kernel
theorem dX2_init_20 : decode cX2_init 20 = .ok (.aload_n 0, 1) := by decide +kernel
theorem dX2_init_21 : decode cX2_init 21 = .ok (.bipush 8, 2) := by decide +kernel
theorem dX2_init_23 : decode cX2_init 23 = .ok (.newarray .int, 2) := by decide +kernel
theorem dX2_init_25 : decode cX2_init 25 = .ok (.putfield 18, 3) := by decide +kernel
theorem dX2_init_28 : decode cX2_init 28 = .ok (.aload_n 0, 1) := by decide +kernel
theorem dX2_init_29 : decode cX2_init 29 = .ok (.bipush 8, 2) := by decide +kernel
theorem dX2_init_31 : decode cX2_init 31 = .ok (.newarray .int, 2) := by decide +kernel
theorem dX2_init_33 : decode cX2_init 33 = .ok (.putfield 21, 3) := by decide +kernel
theorem dX2_init_36 : decode cX2_init 36 = .ok (.aload_n 0, 1) := by decide +kernel
theorem dX2_init_37 : decode cX2_init 37 = .ok (.bipush 8, 2) := by decide +kernel
theorem dX2_init_39 : decode cX2_init 39 = .ok (.newarray .int, 2) := by decide +kernel
theorem dX2_init_41 : decode cX2_init 41 = .ok (.putfield 24, 3) := by decide +kernel
theorem dX2_init_44 : decode cX2_init 44 = .ok (.aload_n 0, 1) := by decide +kernel
theorem dX2_init_45 : decode cX2_init 45 = .ok (.bipush 8, 2) := by decide +kernel
theorem dX2_init_47 : decode cX2_init 47 = .ok (.newarray .int, 2) := by decide +kernel
theorem dX2_init_49 : decode cX2_init 49 = .ok (.putfield 27, 3) := by decide +kernel
theorem dX2_init_52 : decode cX2_init 52 = .ok (.aload_n 0, 1) := by decide +kernel
theorem dX2_init_53 : decode cX2_init 53 = .ok (.bipush 8, 2) := by decide +kernel
theorem dX2_init_55 : decode cX2_init 55 = .ok (.newarray .int, 2) := by decide +kernel
theorem dX2_init_57 : decode cX2_init 57 = .ok (.putfield 30, 3) := by decide +kernel
theorem dX2_init_60 : decode cX2_init 60 = .ok (.aload_n 0, 1) := by decide +kernel
theorem dX2_init_61 : decode cX2_init 61 = .ok (.bipush 8, 2) := by decide +kernel
theorem dX2_init_63 : decode cX2_init 63 = .ok (.newarray .int, 2) := by decide +kernel
theorem dX2_init_65 : decode cX2_init 65 = .ok (.putfield 33, 3) := by decide +kernel
theorem dX2_init_68 : decode cX2_init 68 = .ok (.aload_n 0, 1) := by decide +kernel
theorem dX2_init_69 : decode cX2_init 69 = .ok (.bipush 8, 2) := by decide +kernel
theorem dX2_init_71 : decode cX2_init 71 = .ok (.bipush 12, 2) := by decide +kernel
theorem dX2_init_73 : decode cX2_init 73 = .ok (.multianewarray 36 2, 4) := by decide +kernel
theorem dX2_init_77 : decode cX2_init 77 = .ok (.putfield 38, 3) := by decide +kernel
theorem dX2_init_80 : decode cX2_init 80 = .ok (.aload_n 0, 1) := by decide +kernel
theorem dX2_init_81 : decode cX2_init 81 = .ok (.bipush 8, 2) := by decide +kernel
theorem dX2_init_83 : decode cX2_init 83 = .ok (.bipush 12, 2) := by decide +kernel
theorem dX2_init_85 : decode cX2_init 85 = .ok (.multianewarray 36 2, 4) := by decide +kernel
theorem dX2_init_89 : decode cX2_init 89 = .ok (.putfield 41, 3) := by decide +kernel
theorem dX2_init_92 : decode cX2_init 92 = .ok (.aload_n 0, 1) := by decide +kernel
theorem dX2_init_93 : decode cX2_init 93 = .ok (.iconst 0, 1) := by decide +kernel
theorem dX2_init_94 : decode cX2_init 94 = .ok (.putfield 44, 3) := by decide +kernel
theorem dX2_init_97 : decode cX2_init 97 = .ok (.aload_n 0, 1) := by decide +kernel
theorem dX2_init_98 : decode cX2_init 98 = .ok (.iconst 0, 1) := by decide +kernel
theorem dX2_init_99 : decode cX2_init 99 = .ok (.putfield 48, 3) := by decide +kernel
theorem dX2_init_102 : decode cX2_init 102 = .ok (.aload_n 0, 1) := by decide +kernel
theorem dX2_init_103 : decode cX2_init 103 = .ok (.iconst 0, 1) := by decide +kernel
theorem dX2_init_104 : decode cX2_init 104 = .ok (.putfield 51, 3) := by decide +kernel
theorem dX2_init_107 : decode cX2_init 107 = .ok (.aload_n 0, 1) := by decide +kernel
theorem dX2_init_108 : decode cX2_init 108 = .ok (.iconst 0, 1) := by decide +kernel
theorem dX2_init_109 : decode cX2_init 109 = .ok (.putfield 54, 3) := by decide +kernel
theorem dX2_init_112 : decode cX2_init 112 = .ok (.aload_n 0, 1) := by decide +kernel
theorem dX2_init_113 : decode cX2_init 113 = .ok (.iconst 0, 1) := by decide +kernel
theorem dX2_init_114 : decode cX2_init 114 = .ok (.putfield 57, 3) := by decide +kernel
theorem dX2_init_117 : decode cX2_init 117 = .ok (.aload_n 0, 1) := by decide +kernel
theorem dX2_init_118 : decode cX2_init 118 = .ok (.iconst 0, 1) := by decide +kernel
theorem dX2_init_119 : decode cX2_init 119 = .ok (.putfield 60, 3) := by decide +kernel
theorem dX2_init_122 : decode cX2_init 122 = .ok (.return_, 1) := by decide +kernel
theorem dX2_layOut_0 : decode cX2_layOut 0 = .ok (.iload_n 1, 1) := by decide +kernel
theorem dX2_layOut_1 : decode cX2_layOut 1 = .ok (.iconst 1, 1) := by decide +kernel
theorem dX2_layOut_2 : decode cX2_layOut 2 = .ok (.if_icmp .lt 31, 3) := by decide +kernel
theorem dX2_layOut_5 : decode cX2_layOut 5 = .ok (.iload_n 1, 1) := by decide +kernel
theorem dX2_layOut_6 : decode cX2_layOut 6 = .ok (.bipush 8, 2) := by decide +kernel
theorem dX2_layOut_8 : decode cX2_layOut 8 = .ok (.if_icmp .gt 25, 3) := by decide +kernel
theorem dX2_layOut_11 : decode cX2_layOut 11 = .ok (.iload_n 2, 1) := by decide +kernel
theorem dX2_layOut_12 : decode cX2_layOut 12 = .ok (.iconst 4, 1) := by decide +kernel
theorem dX2_layOut_13 : decode cX2_layOut 13 = .ok (.if_icmp .lt 20, 3) := by decide +kernel
theorem dX2_layOut_16 : decode cX2_layOut 16 = .ok (.iload_n 2, 1) := by decide +kernel
theorem dX2_layOut_17 : decode cX2_layOut 17 = .ok (.bipush 60, 2) := by decide +kernel
theorem dX2_layOut_19 : decode cX2_layOut 19 = .ok (.if_icmp .gt 14, 3) := by decide +kernel
theorem dX2_layOut_22 : decode cX2_layOut 22 = .ok (.iload_n 3, 1) := by decide +kernel
theorem dX2_layOut_23 : decode cX2_layOut 23 = .ok (.iconst 1, 1) := by decide +kernel
theorem dX2_layOut_24 : decode cX2_layOut 24 = .ok (.if_icmp .lt 9, 3) := by decide +kernel
theorem dX2_layOut_27 : decode cX2_layOut 27 = .ok (.iload_n 3, 1) := by decide +kernel
theorem dX2_layOut_28 : decode cX2_layOut 28 = .ok (.bipush 9, 2) := by decide +kernel
theorem dX2_layOut_30 : decode cX2_layOut 30 = .ok (.if_icmp .le 5, 3) := by decide +kernel
theorem dX2_layOut_33 : decode cX2_layOut 33 = .ok (.iconst 0, 1) := by decide +kernel
theorem dX2_layOut_34 : decode cX2_layOut 34 = .ok (.ireturn, 1) := by decide +kernel
theorem dX2_layOut_35 : decode cX2_layOut 35 = .ok (.aload_n 0, 1) := by decide +kernel
theorem dX2_layOut_36 : decode cX2_layOut 36 = .ok (.iload_n 1, 1) := by decide +kernel
theorem dX2_layOut_37 : decode cX2_layOut 37 = .ok (.putfield 44, 3) := by decide +kernel
theorem dX2_layOut_40 : decode cX2_layOut 40 = .ok (.aload_n 0, 1) := by decide +kernel
theorem dX2_layOut_41 : decode cX2_layOut 41 = .ok (.iload_n 2, 1) := by decide +kernel
theorem dX2_layOut_42 : decode cX2_layOut 42 = .ok (.putfield 48, 3) := by decide +kernel
theorem dX2_layOut_45 : decode cX2_layOut 45 = .ok (.aload_n 0, 1) := by decide +kernel
theorem dX2_layOut_46 : decode cX2_layOut 46 = .ok (.iload_n 3, 1) := by decide +kernel
theorem dX2_layOut_47 : decode cX2_layOut 47 = .ok (.putfield 51, 3) := by decide +kernel
theorem dX2_layOut_50 : decode cX2_layOut 50 = .ok (.aload_n 0, 1) := by decide +kernel
theorem dX2_layOut_51 : decode cX2_layOut 51 = .ok (.iconst 0, 1) := by decide +kernel
theorem dX2_layOut_52 : decode cX2_layOut 52 = .ok (.putfield 54, 3) := by decide +kernel
theorem dX2_layOut_55 : decode cX2_layOut 55 = .ok (.aload_n 0, 1) := by decide +kernel
theorem dX2_layOut_56 : decode cX2_layOut 56 = .ok (.iconst 0, 1) := by decide +kernel
theorem dX2_layOut_57 : decode cX2_layOut 57 = .ok (.putfield 57, 3) := by decide +kernel
theorem dX2_layOut_60 : decode cX2_layOut 60 = .ok (.aload_n 0, 1) := by decide +kernel
theorem dX2_layOut_61 : decode cX2_layOut 61 = .ok (.iconst 0, 1) := by decide +kernel
theorem dX2_layOut_62 : decode cX2_layOut 62 = .ok (.putfield 60, 3) := by decide +kernel
theorem dX2_layOut_65 : decode cX2_layOut 65 = .ok (.iconst 1, 1) := by decide +kernel
theorem dX2_layOut_66 : decode cX2_layOut 66 = .ok (.ireturn, 1) := by decide +kernel
set_option maxRecDepth 20000 in
theorem ggX2_addChariot_X2_isTaken : GoodIn wsX2_addChariot wsX2_isTaken := goodIn_r _ [16, 2, 5, 17, 18, 19, 20, 21, 22, 23, 24, 25, 26, 27, 28, 29, 30, 31, 32] (by decide +kernel) (by decide +kernel)
set_option maxRecDepth 20000 in
theorem gX2_addChariot_X2_isTaken : GoodIn wsX2_addChariot (wsV RX2 63 RX2 yX2_isTaken wsX2_isTaken) := goodIn_app (goodIn_of _ (by decide +kernel)) ggX2_addChariot_X2_isTaken
theorem dX2_addChariot_0 : decode cX2_addChariot 0 = .ok (.iload_n 1, 1) := by decide +kernel
theorem dX2_addChariot_1 : decode cX2_addChariot 1 = .ok (.ifCond .lt 45, 3) := by decide +kernel
theorem dX2_addChariot_4 : decode cX2_addChariot 4 = .ok (.iload_n 1, 1) := by decide +kernel
theorem dX2_addChariot_5 : decode cX2_addChariot 5 = .ok (.aload_n 0, 1) := by decide +kernel
theorem dX2_addChariot_6 : decode cX2_addChariot 6 = .ok (.getfield 44, 3) := by decide +kernel
theorem dX2_addChariot_9 : decode cX2_addChariot 9 = .ok (.if_icmp .ge 37, 3) := by decide +kernel
theorem dX2_addChariot_12 : decode cX2_addChariot 12 = .ok (.iload_n 2, 1) := by decide +kernel
theorem dX2_addChariot_13 : decode cX2_addChariot 13 = .ok (.ifCond .lt 33, 3) := by decide +kernel
theorem dX2_addChariot_16 : decode cX2_addChariot 16 = .ok (.iload_n 2, 1) := by decide +kernel
theorem dX2_addChariot_17 : decode cX2_addChariot 17 = .ok (.bipush 20, 2) := by decide +kernel
theorem dX2_addChariot_19 : decode cX2_addChariot 19 = .ok (.if_icmp .gt 27, 3) := by decide +kernel
theorem dX2_addChariot_22 : decode cX2_addChariot 22 = .ok (.aload_n 0, 1) := by decide +kernel
theorem dX2_addChariot_23 : decode cX2_addChariot 23 = .ok (.iload_n 1, 1) := by decide +kernel
theorem dX2_addChariot_24 : decode cX2_addChariot 24 = .ok (.invokevirtual 63, 3) := by decide +kernel
theorem dX2_addChariot_27 : decode cX2_addChariot 27 = .ok (.ifCond .ne 19, 3) := by decide +kernel
theorem dX2_addChariot_30 : decode cX2_addChariot 30 = .ok (.aload_n 0, 1) := by decide +kernel
theorem dX2_addChariot_31 : decode cX2_addChariot 31 = .ok (.getfield 54, 3) := by decide +kernel
theorem dX2_addChariot_34 : decode cX2_addChariot 34 = .ok (.bipush 8, 2) := by decide +kernel
theorem dX2_addChariot_36 : decode cX2_addChariot 36 = .ok (.if_icmp .ge 10, 3) := by decide +kernel
theorem dX2_addChariot_39 : decode cX2_addChariot 39 = .ok (.aload_n 0, 1) := by decide +kernel
theorem dX2_addChariot_40 : decode cX2_addChariot 40 = .ok (.getfield 57, 3) := by decide +kernel
theorem dX2_addChariot_43 : decode cX2_addChariot 43 = .ok (.ifCond .eq 5, 3) := by decide +kernel
theorem dX2_addChariot_46 : decode cX2_addChariot 46 = .ok (.iconst (-1), 1) := by decide +kernel
theorem dX2_addChariot_47 : decode cX2_addChariot 47 = .ok (.ireturn, 1) := by decide +kernel
theorem dX2_addChariot_48 : decode cX2_addChariot 48 = .ok (.aload_n 0, 1) := by decide +kernel
theorem dX2_addChariot_49 : decode cX2_addChariot 49 = .ok (.getfield 11, 3) := by decide +kernel
theorem dX2_addChariot_52 : decode cX2_addChariot 52 = .ok (.aload_n 0, 1) := by decide +kernel
theorem dX2_addChariot_53 : decode cX2_addChariot 53 = .ok (.getfield 54, 3) := by decide +kernel
theorem dX2_addChariot_56 : decode cX2_addChariot 56 = .ok (.iload_n 2, 1) := by decide +kernel
theorem dX2_addChariot_57 : decode cX2_addChariot 57 = .ok (.iastore, 1) := by decide +kernel
theorem dX2_addChariot_58 : decode cX2_addChariot 58 = .ok (.aload_n 0, 1) := by decide +kernel
theorem dX2_addChariot_59 : decode cX2_addChariot 59 = .ok (.getfield 15, 3) := by decide +kernel
theorem dX2_addChariot_62 : decode cX2_addChariot 62 = .ok (.aload_n 0, 1) := by decide +kernel
theorem dX2_addChariot_63 : decode cX2_addChariot 63 = .ok (.getfield 54, 3) := by decide +kernel
theorem dX2_addChariot_66 : decode cX2_addChariot 66 = .ok (.iload_n 1, 1) := by decide +kernel
theorem dX2_addChariot_67 : decode cX2_addChariot 67 = .ok (.iastore, 1) := by decide +kernel
theorem dX2_addChariot_68 : decode cX2_addChariot 68 = .ok (.aload_n 0, 1) := by decide +kernel
theorem dX2_addChariot_69 : decode cX2_addChariot 69 = .ok (.getfield 18, 3) := by decide +kernel
theorem dX2_addChariot_72 : decode cX2_addChariot 72 = .ok (.aload_n 0, 1) := by decide +kernel
theorem dX2_addChariot_73 : decode cX2_addChariot 73 = .ok (.getfield 54, 3) := by decide +kernel
theorem dX2_addChariot_76 : decode cX2_addChariot 76 = .ok (.iconst 0, 1) := by decide +kernel
theorem dX2_addChariot_77 : decode cX2_addChariot 77 = .ok (.iastore, 1) := by decide +kernel
theorem dX2_addChariot_78 : decode cX2_addChariot 78 = .ok (.aload_n 0, 1) := by decide +kernel
theorem dX2_addChariot_79 : decode cX2_addChariot 79 = .ok (.getfield 21, 3) := by decide +kernel
theorem dX2_addChariot_82 : decode cX2_addChariot 82 = .ok (.aload_n 0, 1) := by decide +kernel
theorem dX2_addChariot_83 : decode cX2_addChariot 83 = .ok (.getfield 54, 3) := by decide +kernel
theorem dX2_addChariot_86 : decode cX2_addChariot 86 = .ok (.iconst 0, 1) := by decide +kernel
theorem dX2_addChariot_87 : decode cX2_addChariot 87 = .ok (.iastore, 1) := by decide +kernel
theorem dX2_addChariot_88 : decode cX2_addChariot 88 = .ok (.aload_n 0, 1) := by decide +kernel
theorem dX2_addChariot_89 : decode cX2_addChariot 89 = .ok (.getfield 24, 3) := by decide +kernel
theorem dX2_addChariot_92 : decode cX2_addChariot 92 = .ok (.aload_n 0, 1) := by decide +kernel
theorem dX2_addChariot_93 : decode cX2_addChariot 93 = .ok (.getfield 54, 3) := by decide +kernel
theorem dX2_addChariot_96 : decode cX2_addChariot 96 = .ok (.iconst 0, 1) := by decide +kernel
theorem dX2_addChariot_97 : decode cX2_addChariot 97 = .ok (.iastore, 1) := by decide +kernel
theorem dX2_addChariot_98 : decode cX2_addChariot 98 = .ok (.aload_n 0, 1) := by decide +kernel
theorem dX2_addChariot_99 : decode cX2_addChariot 99 = .ok (.getfield 27, 3) := by decide +kernel
theorem dX2_addChariot_102 : decode cX2_addChariot 102 = .ok (.aload_n 0, 1) := by decide +kernel
theorem dX2_addChariot_103 : decode cX2_addChariot 103 = .ok (.getfield 54, 3) := by decide +kernel
theorem dX2_addChariot_106 : decode cX2_addChariot 106 = .ok (.iconst 0, 1) := by decide +kernel
theorem dX2_addChariot_107 : decode cX2_addChariot 107 = .ok (.iastore, 1) := by decide +kernel
theorem dX2_addChariot_108 : decode cX2_addChariot 108 = .ok (.aload_n 0, 1) := by decide +kernel
theorem dX2_addChariot_109 : decode cX2_addChariot 109 = .ok (.getfield 30, 3) := by decide +kernel
theorem dX2_addChariot_112 : decode cX2_addChariot 112 = .ok (.aload_n 0, 1) := by decide +kernel
theorem dX2_addChariot_113 : decode cX2_addChariot 113 = .ok (.getfield 54, 3) := by decide +kernel
theorem dX2_addChariot_116 : decode cX2_addChariot 116 = .ok (.iconst 0, 1) := by decide +kernel
theorem dX2_addChariot_117 : decode cX2_addChariot 117 = .ok (.iastore, 1) := by decide +kernel
theorem dX2_addChariot_118 : decode cX2_addChariot 118 = .ok (.aload_n 0, 1) := by decide +kernel
theorem dX2_addChariot_119 : decode cX2_addChariot 119 = .ok (.getfield 33, 3) := by decide +kernel
theorem dX2_addChariot_122 : decode cX2_addChariot 122 = .ok (.aload_n 0, 1) := by decide +kernel
theorem dX2_addChariot_123 : decode cX2_addChariot 123 = .ok (.getfield 54, 3) := by decide +kernel
theorem dX2_addChariot_126 : decode cX2_addChariot 126 = .ok (.iconst 0, 1) := by decide +kernel
theorem dX2_addChariot_127 : decode cX2_addChariot 127 = .ok (.iastore, 1) := by decide +kernel
theorem dX2_addChariot_128 : decode cX2_addChariot 128 = .ok (.aload_n 0, 1) := by decide +kernel
theorem dX2_addChariot_129 : decode cX2_addChariot 129 = .ok (.dup, 1) := by decide +kernel
theorem dX2_addChariot_130 : decode cX2_addChariot 130 = .ok (.getfield 54, 3) := by decide +kernel
theorem dX2_addChariot_133 : decode cX2_addChariot 133 = .ok (.dup_x1, 1) := by decide +kernel
theorem dX2_addChariot_134 : decode cX2_addChariot 134 = .ok (.iconst 1, 1) := by decide +kernel
theorem dX2_addChariot_135 : decode cX2_addChariot 135 = .ok (.iadd, 1) := by decide +kernel
theorem dX2_addChariot_136 : decode cX2_addChariot 136 = .ok (.putfield 54, 3) := by decide +kernel
theorem dX2_addChariot_139 : decode cX2_addChariot 139 = .ok (.ireturn, 1) := by decide +kernel
theorem dX2_isTaken_0 : decode cX2_isTaken 0 = .ok (.iconst 0, 1) := by decide +kernel
theorem dX2_isTaken_1 : decode cX2_isTaken 1 = .ok (.istore_n 2, 1) := by decide +kernel
theorem dX2_isTaken_2 : decode cX2_isTaken 2 = .ok (.iload_n 2, 1) := by decide +kernel
theorem dX2_isTaken_3 : decode cX2_isTaken 3 = .ok (.aload_n 0, 1) := by decide +kernel
theorem dX2_isTaken_4 : decode cX2_isTaken 4 = .ok (.getfield 54, 3) := by decide +kernel
theorem dX2_isTaken_7 : decode cX2_isTaken 7 = .ok (.if_icmp .ge 21, 3) := by decide +kernel
theorem dX2_isTaken_10 : decode cX2_isTaken 10 = .ok (.aload_n 0, 1) := by decide +kernel
theorem dX2_isTaken_11 : decode cX2_isTaken 11 = .ok (.getfield 15, 3) := by decide +kernel
theorem dX2_isTaken_14 : decode cX2_isTaken 14 = .ok (.iload_n 2, 1) := by decide +kernel
theorem dX2_isTaken_15 : decode cX2_isTaken 15 = .ok (.iaload, 1) := by decide +kernel
theorem dX2_isTaken_16 : decode cX2_isTaken 16 = .ok (.iload_n 1, 1) := by decide +kernel
theorem dX2_isTaken_17 : decode cX2_isTaken 17 = .ok (.if_icmp .ne 5, 3) := by decide +kernel
theorem dX2_isTaken_20 : decode cX2_isTaken 20 = .ok (.iconst 1, 1) := by decide +kernel
theorem dX2_isTaken_21 : decode cX2_isTaken 21 = .ok (.ireturn, 1) := by decide +kernel
theorem dX2_isTaken_22 : decode cX2_isTaken 22 = .ok (.iinc 2 1, 3) := by decide +kernel
theorem dX2_isTaken_25 : decode cX2_isTaken 25 = .ok (.goto (-23), 3) := by decide +kernel
theorem dX2_isTaken_28 : decode cX2_isTaken 28 = .ok (.iconst 0, 1) := by decide +kernel
theorem dX2_isTaken_29 : decode cX2_isTaken 29 = .ok (.ireturn, 1) := by decide +kernel
theorem dX2_isChariot_0 : decode cX2_isChariot 0 = .ok (.iload_n 1, 1) := by decide +kernel
theorem dX2_isChariot_1 : decode cX2_isChariot 1 = .ok (.ifCond .lt 15, 3) := by decide +kernel
theorem dX2_isChariot_4 : decode cX2_isChariot 4 = .ok (.iload_n 1, 1) := by decide +kernel
theorem dX2_isChariot_5 : decode cX2_isChariot 5 = .ok (.aload_n 0, 1) := by decide +kernel
theorem dX2_isChariot_6 : decode cX2_isChariot 6 = .ok (.getfield 54, 3) := by decide +kernel
theorem dX2_isChariot_9 : decode cX2_isChariot 9 = .ok (.if_icmp .ge 7, 3) := by decide +kernel
theorem dX2_isChariot_12 : decode cX2_isChariot 12 = .ok (.iconst 1, 1) := by decide +kernel
theorem dX2_isChariot_13 : decode cX2_isChariot 13 = .ok (.goto 4, 3) := by decide +kernel
theorem dX2_isChariot_16 : decode cX2_isChariot 16 = .ok (.iconst 0, 1) := by decide +kernel
theorem dX2_isChariot_17 : decode cX2_isChariot 17 = .ok (.ireturn, 1) := by decide +kernel
set_option maxRecDepth 20000 in
theorem ggX2_addAct_X2_isChariot : GoodIn wsX2_addAct wsX2_isChariot := goodIn_r _ [9, 10, 11, 12, 13, 14, 15, 16, 17, 18, 19, 20, 21, 22, 23, 24, 25, 26] (by decide +kernel) (by decide +kernel)
set_option maxRecDepth 20000 in
theorem gX2_addAct_X2_isChariot : GoodIn wsX2_addAct (wsV RX2 67 RX2 yX2_isChariot wsX2_isChariot) := goodIn_app (goodIn_of _ (by decide +kernel)) ggX2_addAct_X2_isChariot
theorem dX2_addAct_0 : decode cX2_addAct 0 = .ok (.aload_n 0, 1) := by decide +kernel
theorem dX2_addAct_1 : decode cX2_addAct 1 = .ok (.iload_n 1, 1) := by decide +kernel
theorem dX2_addAct_2 : decode cX2_addAct 2 = .ok (.invokevirtual 67, 3) := by decide +kernel
theorem dX2_addAct_5 : decode cX2_addAct 5 = .ok (.ifCond .eq 40, 3) := by decide +kernel
theorem dX2_addAct_8 : decode cX2_addAct 8 = .ok (.iload_n 2, 1) := by decide +kernel
theorem dX2_addAct_9 : decode cX2_addAct 9 = .ok (.ifCond .lt 36, 3) := by decide +kernel
theorem dX2_addAct_12 : decode cX2_addAct 12 = .ok (.iload_n 2, 1) := by decide +kernel
theorem dX2_addAct_13 : decode cX2_addAct 13 = .ok (.iconst 4, 1) := by decide +kernel
theorem dX2_addAct_14 : decode cX2_addAct 14 = .ok (.if_icmp .gt 31, 3) := by decide +kernel
theorem dX2_addAct_17 : decode cX2_addAct 17 = .ok (.iload_n 3, 1) := by decide +kernel
theorem dX2_addAct_18 : decode cX2_addAct 18 = .ok (.iconst (-1), 1) := by decide +kernel
theorem dX2_addAct_19 : decode cX2_addAct 19 = .ok (.if_icmp .lt 26, 3) := by decide +kernel
theorem dX2_addAct_22 : decode cX2_addAct 22 = .ok (.iload_n 3, 1) := by decide +kernel
theorem dX2_addAct_23 : decode cX2_addAct 23 = .ok (.iconst 1, 1) := by decide +kernel
theorem dX2_addAct_24 : decode cX2_addAct 24 = .ok (.if_icmp .gt 21, 3) := by decide +kernel
theorem dX2_addAct_27 : decode cX2_addAct 27 = .ok (.aload_n 0, 1) := by decide +kernel
theorem dX2_addAct_28 : decode cX2_addAct 28 = .ok (.getfield 33, 3) := by decide +kernel
theorem dX2_addAct_31 : decode cX2_addAct 31 = .ok (.iload_n 1, 1) := by decide +kernel
theorem dX2_addAct_32 : decode cX2_addAct 32 = .ok (.iaload, 1) := by decide +kernel
theorem dX2_addAct_33 : decode cX2_addAct 33 = .ok (.bipush 12, 2) := by decide +kernel
theorem dX2_addAct_35 : decode cX2_addAct 35 = .ok (.if_icmp .ge 10, 3) := by decide +kernel
theorem dX2_addAct_38 : decode cX2_addAct 38 = .ok (.aload_n 0, 1) := by decide +kernel
theorem dX2_addAct_39 : decode cX2_addAct 39 = .ok (.getfield 57, 3) := by decide +kernel
theorem dX2_addAct_42 : decode cX2_addAct 42 = .ok (.ifCond .eq 5, 3) := by decide +kernel
theorem dX2_addAct_45 : decode cX2_addAct 45 = .ok (.iconst (-1), 1) := by decide +kernel
theorem dX2_addAct_46 : decode cX2_addAct 46 = .ok (.ireturn, 1) := by decide +kernel
theorem dX2_addAct_47 : decode cX2_addAct 47 = .ok (.aload_n 0, 1) := by decide +kernel
theorem dX2_addAct_48 : decode cX2_addAct 48 = .ok (.getfield 38, 3) := by decide +kernel
theorem dX2_addAct_51 : decode cX2_addAct 51 = .ok (.iload_n 1, 1) := by decide +kernel
theorem dX2_addAct_52 : decode cX2_addAct 52 = .ok (.aaload, 1) := by decide +kernel
theorem dX2_addAct_53 : decode cX2_addAct 53 = .ok (.aload_n 0, 1) := by decide +kernel
theorem dX2_addAct_54 : decode cX2_addAct 54 = .ok (.getfield 33, 3) := by decide +kernel
theorem dX2_addAct_57 : decode cX2_addAct 57 = .ok (.iload_n 1, 1) := by decide +kernel
theorem dX2_addAct_58 : decode cX2_addAct 58 = .ok (.iaload, 1) := by decide +kernel
theorem dX2_addAct_59 : decode cX2_addAct 59 = .ok (.iload_n 2, 1) := by decide +kernel
theorem dX2_addAct_60 : decode cX2_addAct 60 = .ok (.iastore, 1) := by decide +kernel
theorem dX2_addAct_61 : decode cX2_addAct 61 = .ok (.aload_n 0, 1) := by decide +kernel
theorem dX2_addAct_62 : decode cX2_addAct 62 = .ok (.getfield 41, 3) := by decide +kernel
theorem dX2_addAct_65 : decode cX2_addAct 65 = .ok (.iload_n 1, 1) := by decide +kernel
theorem dX2_addAct_66 : decode cX2_addAct 66 = .ok (.aaload, 1) := by decide +kernel
theorem dX2_addAct_67 : decode cX2_addAct 67 = .ok (.aload_n 0, 1) := by decide +kernel
theorem dX2_addAct_68 : decode cX2_addAct 68 = .ok (.getfield 33, 3) := by decide +kernel
theorem dX2_addAct_71 : decode cX2_addAct 71 = .ok (.iload_n 1, 1) := by decide +kernel
theorem dX2_addAct_72 : decode cX2_addAct 72 = .ok (.iaload, 1) := by decide +kernel
theorem dX2_addAct_73 : decode cX2_addAct 73 = .ok (.iload_n 3, 1) := by decide +kernel
theorem dX2_addAct_74 : decode cX2_addAct 74 = .ok (.iastore, 1) := by decide +kernel
theorem dX2_addAct_75 : decode cX2_addAct 75 = .ok (.aload_n 0, 1) := by decide +kernel
theorem dX2_addAct_76 : decode cX2_addAct 76 = .ok (.getfield 33, 3) := by decide +kernel
theorem dX2_addAct_79 : decode cX2_addAct 79 = .ok (.iload_n 1, 1) := by decide +kernel
theorem dX2_addAct_80 : decode cX2_addAct 80 = .ok (.dup2, 1) := by decide +kernel
theorem dX2_addAct_81 : decode cX2_addAct 81 = .ok (.iaload, 1) := by decide +kernel
theorem dX2_addAct_82 : decode cX2_addAct 82 = .ok (.iconst 1, 1) := by decide +kernel
theorem dX2_addAct_83 : decode cX2_addAct 83 = .ok (.iadd, 1) := by decide +kernel
theorem dX2_addAct_84 : decode cX2_addAct 84 = .ok (.iastore, 1) := by decide +kernel
theorem dX2_addAct_85 : decode cX2_addAct 85 = .ok (.aload_n 0, 1) := by decide +kernel
theorem dX2_addAct_86 : decode cX2_addAct 86 = .ok (.getfield 33, 3) := by decide +kernel
theorem dX2_addAct_89 : decode cX2_addAct 89 = .ok (.iload_n 1, 1) := by decide +kernel
theorem dX2_addAct_90 : decode cX2_addAct 90 = .ok (.iaload, 1) := by decide +kernel
theorem dX2_addAct_91 : decode cX2_addAct 91 = .ok (.ireturn, 1) := by decide +kernel
set_option maxRecDepth 20000 in
theorem ggX2_pass_X2_passTick : GoodIn wsX2_pass wsX2_passTick := goodIn_r _ [8, 9, 10, 11, 12, 7, 13, 2, 3, 14, 15, 16, 17, 18, 19, 20, 21, 22, 23, 24, 25, 26, 27, 28, 29, 30, 31, 32, 33, 34, 35, 36, 37, 38, 39, 40, 41, 42, 43, 44, 45, 46, 47, 48, 1, 49, 50, 51, 52, 53, 54, 55, 56, 57, 58, 59, 60, 61, 62, 63, 64, 65, 66, 67, 68, 69, 70, 71, 72] (by decide +kernel) (by decide +kernel)
set_option maxRecDepth 20000 in
theorem gX2_pass_X2_passTick : GoodIn wsX2_pass (wsV RX2 70 RX2 yX2_passTick wsX2_passTick) := goodIn_app (goodIn_of _ (by decide +kernel)) ggX2_pass_X2_passTick
theorem dX2_pass_0 : decode cX2_pass 0 = .ok (.aload_n 0, 1) := by decide +kernel
theorem dX2_pass_1 : decode cX2_pass 1 = .ok (.getfield 44, 3) := by decide +kernel
theorem dX2_pass_4 : decode cX2_pass 4 = .ok (.ifCond .eq 14, 3) := by decide +kernel
theorem dX2_pass_7 : decode cX2_pass 7 = .ok (.iload_n 1, 1) := by decide +kernel
theorem dX2_pass_8 : decode cX2_pass 8 = .ok (.ifCond .lt 10, 3) := by decide +kernel
theorem dX2_pass_11 : decode cX2_pass 11 = .ok (.iload_n 1, 1) := by decide +kernel
theorem dX2_pass_12 : decode cX2_pass 12 = .ok (.sipush 200, 3) := by decide +kernel
theorem dX2_pass_15 : decode cX2_pass 15 = .ok (.if_icmp .le 5, 3) := by decide +kernel
theorem dX2_pass_18 : decode cX2_pass 18 = .ok (.iconst (-1), 1) := by decide +kernel
theorem dX2_pass_19 : decode cX2_pass 19 = .ok (.ireturn, 1) := by decide +kernel
theorem dX2_pass_20 : decode cX2_pass 20 = .ok (.iconst 0, 1) := by decide +kernel
theorem dX2_pass_21 : decode cX2_pass 21 = .ok (.istore_n 2, 1) := by decide +kernel
theorem dX2_pass_22 : decode cX2_pass 22 = .ok (.iload_n 2, 1) := by decide +kernel
theorem dX2_pass_23 : decode cX2_pass 23 = .ok (.iload_n 1, 1) := by decide +kernel
theorem dX2_pass_24 : decode cX2_pass 24 = .ok (.if_icmp .ge 13, 3) := by decide +kernel
theorem dX2_pass_27 : decode cX2_pass 27 = .ok (.aload_n 0, 1) := by decide +kernel
theorem dX2_pass_28 : decode cX2_pass 28 = .ok (.invokevirtual 70, 3) := by decide +kernel
theorem dX2_pass_31 : decode cX2_pass 31 = .ok (.iinc 2 1, 3) := by decide +kernel
theorem dX2_pass_34 : decode cX2_pass 34 = .ok (.goto (-12), 3) := by decide +kernel
theorem dX2_pass_37 : decode cX2_pass 37 = .ok (.iconst 0, 1) := by decide +kernel
theorem dX2_pass_38 : decode cX2_pass 38 = .ok (.istore_n 2, 1) := by decide +kernel
theorem dX2_pass_39 : decode cX2_pass 39 = .ok (.iconst 0, 1) := by decide +kernel
theorem dX2_pass_40 : decode cX2_pass 40 = .ok (.istore_n 3, 1) := by decide +kernel
theorem dX2_pass_41 : decode cX2_pass 41 = .ok (.iload_n 3, 1) := by decide +kernel
theorem dX2_pass_42 : decode cX2_pass 42 = .ok (.aload_n 0, 1) := by decide +kernel
theorem dX2_pass_43 : decode cX2_pass 43 = .ok (.getfield 54, 3) := by decide +kernel
theorem dX2_pass_46 : decode cX2_pass 46 = .ok (.if_icmp .ge 22, 3) := by decide +kernel
theorem dX2_pass_49 : decode cX2_pass 49 = .ok (.aload_n 0, 1) := by decide +kernel
theorem dX2_pass_50 : decode cX2_pass 50 = .ok (.getfield 24, 3) := by decide +kernel
theorem dX2_pass_53 : decode cX2_pass 53 = .ok (.iload_n 3, 1) := by decide +kernel
theorem dX2_pass_54 : decode cX2_pass 54 = .ok (.iaload, 1) := by decide +kernel
theorem dX2_pass_55 : decode cX2_pass 55 = .ok (.iconst 1, 1) := by decide +kernel
theorem dX2_pass_56 : decode cX2_pass 56 = .ok (.if_icmp .ne 6, 3) := by decide +kernel
theorem dX2_pass_59 : decode cX2_pass 59 = .ok (.iinc 2 1, 3) := by decide +kernel
theorem dX2_pass_62 : decode cX2_pass 62 = .ok (.iinc 3 1, 3) := by decide +kernel
theorem dX2_pass_65 : decode cX2_pass 65 = .ok (.goto (-24), 3) := by decide +kernel
theorem dX2_pass_68 : decode cX2_pass 68 = .ok (.iload_n 2, 1) := by decide +kernel
theorem dX2_pass_69 : decode cX2_pass 69 = .ok (.ireturn, 1) := by decide +kernel
set_option maxRecDepth 20000 in
theorem ggX2_passTick_X2_letIn : GoodIn wsX2_passTick wsX2_letIn := goodIn_r _ [6, 7, 8, 9, 1, 53, 54, 55, 56, 57, 58, 59, 60, 61, 62, 63, 64, 65, 66, 67, 68] (by decide +kernel) (by decide +kernel)
set_option maxRecDepth 20000 in
theorem gX2_passTick_X2_letIn : GoodIn wsX2_passTick (wsV RX2 73 RX2 yX2_letIn wsX2_letIn) := goodIn_app (goodIn_of _ (by decide +kernel)) ggX2_passTick_X2_letIn
set_option maxRecDepth 20000 in
theorem ggX2_passTick_X2_crash : GoodIn wsX2_passTick wsX2_crash := goodIn_r _ [13, 7, 8, 14, 1, 15, 16, 17, 5, 18, 19, 20, 21, 22, 23, 53, 54, 55, 56, 57, 58, 59, 60, 61, 62, 63, 64, 65, 66, 67, 68] (by decide +kernel) (by decide +kernel)
set_option maxRecDepth 20000 in
theorem gX2_passTick_X2_crash : GoodIn wsX2_passTick (wsV RX2 76 RX2 yX2_crash wsX2_crash) := goodIn_app (goodIn_of _ (by decide +kernel)) ggX2_passTick_X2_crash
set_option maxRecDepth 20000 in
theorem ggX2_passTick_X2_goForward : GoodIn wsX2_passTick wsX2_goForward := goodIn_r _ [27, 7, 8, 28, 20, 29, 30, 31, 32, 33, 5, 34, 35, 1, 9, 36, 37, 38, 39, 53, 54, 55, 56, 57, 58, 59, 60, 61, 62, 63, 64, 65, 66, 67, 68] (by decide +kernel) (by decide +kernel)
set_option maxRecDepth 20000 in
theorem gX2_passTick_X2_goForward : GoodIn wsX2_passTick (wsV RX2 79 RX2 yX2_goForward wsX2_goForward) := goodIn_app (goodIn_of _ (by decide +kernel)) ggX2_passTick_X2_goForward
set_option maxRecDepth 20000 in
theorem ggX2_passTick_X2_bringHome : GoodIn wsX2_passTick wsX2_bringHome := goodIn_r _ [43, 44, 7, 8, 19, 30, 45, 46, 14, 1, 47, 53, 54, 55, 56, 57, 58, 59, 60, 61, 62, 63, 64, 65, 66, 67, 68] (by decide +kernel) (by decide +kernel)
set_option maxRecDepth 20000 in
theorem gX2_passTick_X2_bringHome : GoodIn wsX2_passTick (wsV RX2 83 RX2 yX2_bringHome wsX2_bringHome) := goodIn_app (goodIn_of _ (by decide +kernel)) ggX2_passTick_X2_bringHome
set_option maxRecDepth 20000 in
theorem ggX2_passTick_X2_changeLanes : GoodIn wsX2_passTick wsX2_changeLanes := goodIn_r _ [51, 7, 8, 19, 52, 44, 31, 32, 33, 5, 34, 35, 1, 9, 36, 37, 38, 39, 53, 54, 55, 56, 57, 58, 59, 60, 61, 62, 63, 64, 65, 66, 67, 68] (by decide +kernel) (by decide +kernel)
set_option maxRecDepth 20000 in
theorem gX2_passTick_X2_changeLanes : GoodIn wsX2_passTick (wsV RX2 86 RX2 yX2_changeLanes wsX2_changeLanes) := goodIn_app (goodIn_of _ (by decide +kernel)) ggX2_passTick_X2_changeLanes
theorem dX2_passTick_0 : decode cX2_passTick 0 = .ok (.aload_n 0, 1) := by decide +kernel
theorem dX2_passTick_1 : decode cX2_passTick 1 = .ok (.dup, 1) := by decide +kernel
theorem dX2_passTick_2 : decode cX2_passTick 2 = .ok (.getfield 57, 3) := by decide +kernel
theorem dX2_passTick_5 : decode cX2_passTick 5 = .ok (.iconst 1, 1) := by decide +kernel
theorem dX2_passTick_6 : decode cX2_passTick 6 = .ok (.iadd, 1) := by decide +kernel
theorem dX2_passTick_7 : decode cX2_passTick 7 = .ok (.putfield 57, 3) := by decide +kernel
theorem dX2_passTick_10 : decode cX2_passTick 10 = .ok (.aload_n 0, 1) := by decide +kernel
theorem dX2_passTick_11 : decode cX2_passTick 11 = .ok (.invokevirtual 73, 3) := by decide +kernel
theorem dX2_passTick_14 : decode cX2_passTick 14 = .ok (.aload_n 0, 1) := by decide +kernel
theorem dX2_passTick_15 : decode cX2_passTick 15 = .ok (.invokevirtual 76, 3) := by decide +kernel
theorem dX2_passTick_18 : decode cX2_passTick 18 = .ok (.iconst 1, 1) := by decide +kernel
theorem dX2_passTick_19 : decode cX2_passTick 19 = .ok (.istore_n 1, 1) := by decide +kernel
theorem dX2_passTick_20 : decode cX2_passTick 20 = .ok (.iload_n 1, 1) := by decide +kernel
theorem dX2_passTick_21 : decode cX2_passTick 21 = .ok (.iconst 4, 1) := by decide +kernel
theorem dX2_passTick_22 : decode cX2_passTick 22 = .ok (.if_icmp .gt 22, 3) := by decide +kernel
theorem dX2_passTick_25 : decode cX2_passTick 25 = .ok (.aload_n 0, 1) := by decide +kernel
theorem dX2_passTick_26 : decode cX2_passTick 26 = .ok (.iload_n 1, 1) := by decide +kernel
theorem dX2_passTick_27 : decode cX2_passTick 27 = .ok (.invokevirtual 79, 3) := by decide +kernel
theorem dX2_passTick_30 : decode cX2_passTick 30 = .ok (.aload_n 0, 1) := by decide +kernel
theorem dX2_passTick_31 : decode cX2_passTick 31 = .ok (.invokevirtual 83, 3) := by decide +kernel
theorem dX2_passTick_34 : decode cX2_passTick 34 = .ok (.aload_n 0, 1) := by decide +kernel
theorem dX2_passTick_35 : decode cX2_passTick 35 = .ok (.invokevirtual 76, 3) := by decide +kernel
theorem dX2_passTick_38 : decode cX2_passTick 38 = .ok (.iinc 1 1, 3) := by decide +kernel
theorem dX2_passTick_41 : decode cX2_passTick 41 = .ok (.goto (-21), 3) := by decide +kernel
theorem dX2_passTick_44 : decode cX2_passTick 44 = .ok (.aload_n 0, 1) := by decide +kernel
theorem dX2_passTick_45 : decode cX2_passTick 45 = .ok (.invokevirtual 86, 3) := by decide +kernel
theorem dX2_passTick_48 : decode cX2_passTick 48 = .ok (.aload_n 0, 1) := by decide +kernel
theorem dX2_passTick_49 : decode cX2_passTick 49 = .ok (.invokevirtual 76, 3) := by decide +kernel
theorem dX2_passTick_52 : decode cX2_passTick 52 = .ok (.return_, 1) := by decide +kernel
theorem dX2_letIn_0 : decode cX2_letIn 0 = .ok (.iconst 0, 1) := by decide +kernel
theorem dX2_letIn_1 : decode cX2_letIn 1 = .ok (.istore_n 1, 1) := by decide +kernel
theorem dX2_letIn_2 : decode cX2_letIn 2 = .ok (.iload_n 1, 1) := by decide +kernel
theorem dX2_letIn_3 : decode cX2_letIn 3 = .ok (.aload_n 0, 1) := by decide +kernel
theorem dX2_letIn_4 : decode cX2_letIn 4 = .ok (.getfield 54, 3) := by decide +kernel
theorem dX2_letIn_7 : decode cX2_letIn 7 = .ok (.if_icmp .ge 40, 3) := by decide +kernel
theorem dX2_letIn_10 : decode cX2_letIn 10 = .ok (.aload_n 0, 1) := by decide +kernel
theorem dX2_letIn_11 : decode cX2_letIn 11 = .ok (.getfield 24, 3) := by decide +kernel
theorem dX2_letIn_14 : decode cX2_letIn 14 = .ok (.iload_n 1, 1) := by decide +kernel
theorem dX2_letIn_15 : decode cX2_letIn 15 = .ok (.iaload, 1) := by decide +kernel
theorem dX2_letIn_16 : decode cX2_letIn 16 = .ok (.ifCond .ne 25, 3) := by decide +kernel
theorem dX2_letIn_19 : decode cX2_letIn 19 = .ok (.aload_n 0, 1) := by decide +kernel
theorem dX2_letIn_20 : decode cX2_letIn 20 = .ok (.getfield 11, 3) := by decide +kernel
theorem dX2_letIn_23 : decode cX2_letIn 23 = .ok (.iload_n 1, 1) := by decide +kernel
theorem dX2_letIn_24 : decode cX2_letIn 24 = .ok (.iaload, 1) := by decide +kernel
theorem dX2_letIn_25 : decode cX2_letIn 25 = .ok (.aload_n 0, 1) := by decide +kernel
theorem dX2_letIn_26 : decode cX2_letIn 26 = .ok (.getfield 57, 3) := by decide +kernel
theorem dX2_letIn_29 : decode cX2_letIn 29 = .ok (.iconst 1, 1) := by decide +kernel
theorem dX2_letIn_30 : decode cX2_letIn 30 = .ok (.isub, 1) := by decide +kernel
theorem dX2_letIn_31 : decode cX2_letIn 31 = .ok (.if_icmp .ne 10, 3) := by decide +kernel
theorem dX2_letIn_34 : decode cX2_letIn 34 = .ok (.aload_n 0, 1) := by decide +kernel
theorem dX2_letIn_35 : decode cX2_letIn 35 = .ok (.getfield 24, 3) := by decide +kernel
theorem dX2_letIn_38 : decode cX2_letIn 38 = .ok (.iload_n 1, 1) := by decide +kernel
theorem dX2_letIn_39 : decode cX2_letIn 39 = .ok (.iconst 1, 1) := by decide +kernel
theorem dX2_letIn_40 : decode cX2_letIn 40 = .ok (.iastore, 1) := by decide +kernel
theorem dX2_letIn_41 : decode cX2_letIn 41 = .ok (.iinc 1 1, 3) := by decide +kernel
theorem dX2_letIn_44 : decode cX2_letIn 44 = .ok (.goto (-42), 3) := by decide +kernel
theorem dX2_letIn_47 : decode cX2_letIn 47 = .ok (.return_, 1) := by decide +kernel
set_option maxRecDepth 20000 in
theorem ggX2_actOf_J9_floorMod_7cf53 : GoodIn wsX2_actOf wsJ9_floorMod_7cf53 := goodIn_r _ [7] (by decide +kernel) (by decide +kernel)
set_option maxRecDepth 20000 in
theorem gX2_actOf_J9_floorMod_7cf53 : GoodIn wsX2_actOf (va_wsS RX2 89 yJ9_floorMod_7cf53 wsJ9_floorMod_7cf53) := goodIn_app (goodIn_of _ (by decide +kernel)) ggX2_actOf_J9_floorMod_7cf53
theorem dX2_actOf_0 : decode cX2_actOf 0 = .ok (.aload_n 0, 1) := by decide +kernel
theorem dX2_actOf_1 : decode cX2_actOf 1 = .ok (.getfield 33, 3) := by decide +kernel
theorem dX2_actOf_4 : decode cX2_actOf 4 = .ok (.iload_n 1, 1) := by decide +kernel
theorem dX2_actOf_5 : decode cX2_actOf 5 = .ok (.iaload, 1) := by decide +kernel
theorem dX2_actOf_6 : decode cX2_actOf 6 = .ok (.ifCond .le 28, 3) := by decide +kernel
theorem dX2_actOf_9 : decode cX2_actOf 9 = .ok (.aload_n 0, 1) := by decide +kernel
theorem dX2_actOf_10 : decode cX2_actOf 10 = .ok (.getfield 57, 3) := by decide +kernel
theorem dX2_actOf_13 : decode cX2_actOf 13 = .ok (.iconst 1, 1) := by decide +kernel
theorem dX2_actOf_14 : decode cX2_actOf 14 = .ok (.isub, 1) := by decide +kernel
theorem dX2_actOf_15 : decode cX2_actOf 15 = .ok (.aload_n 0, 1) := by decide +kernel
theorem dX2_actOf_16 : decode cX2_actOf 16 = .ok (.getfield 11, 3) := by decide +kernel
theorem dX2_actOf_19 : decode cX2_actOf 19 = .ok (.iload_n 1, 1) := by decide +kernel
theorem dX2_actOf_20 : decode cX2_actOf 20 = .ok (.iaload, 1) := by decide +kernel
theorem dX2_actOf_21 : decode cX2_actOf 21 = .ok (.isub, 1) := by decide +kernel
theorem dX2_actOf_22 : decode cX2_actOf 22 = .ok (.aload_n 0, 1) := by decide +kernel
theorem dX2_actOf_23 : decode cX2_actOf 23 = .ok (.getfield 33, 3) := by decide +kernel
theorem dX2_actOf_26 : decode cX2_actOf 26 = .ok (.iload_n 1, 1) := by decide +kernel
theorem dX2_actOf_27 : decode cX2_actOf 27 = .ok (.iaload, 1) := by decide +kernel
theorem dX2_actOf_28 : decode cX2_actOf 28 = .ok (.invokestatic 89, 3) := by decide +kernel
theorem dX2_actOf_31 : decode cX2_actOf 31 = .ok (.goto 4, 3) := by decide +kernel
theorem dX2_actOf_34 : decode cX2_actOf 34 = .ok (.iconst (-1), 1) := by decide +kernel
theorem dX2_actOf_35 : decode cX2_actOf 35 = .ok (.ireturn, 1) := by decide +kernel
set_option maxRecDepth 20000 in
theorem ggX2_goForward_X2_actOf : GoodIn wsX2_goForward wsX2_actOf := goodIn_r _ [11, 12, 13, 14, 15, 16, 17, 18, 19, 20, 21, 22, 23, 24, 25, 26, 27, 28, 29, 30, 31, 32, 33, 34] (by decide +kernel) (by decide +kernel)
set_option maxRecDepth 20000 in
theorem gX2_goForward_X2_actOf : GoodIn wsX2_goForward (wsV RX2 95 RX2 yX2_actOf wsX2_actOf) := goodIn_app (goodIn_of _ (by decide +kernel)) ggX2_goForward_X2_actOf
theorem dX2_goForward_0 : decode cX2_goForward 0 = .ok (.iconst 0, 1) := by decide +kernel
theorem dX2_goForward_1 : decode cX2_goForward 1 = .ok (.istore_n 2, 1) := by decide +kernel
theorem dX2_goForward_2 : decode cX2_goForward 2 = .ok (.iload_n 2, 1) := by decide +kernel
theorem dX2_goForward_3 : decode cX2_goForward 3 = .ok (.aload_n 0, 1) := by decide +kernel
theorem dX2_goForward_4 : decode cX2_goForward 4 = .ok (.getfield 54, 3) := by decide +kernel
theorem dX2_goForward_7 : decode cX2_goForward 7 = .ok (.if_icmp .ge 81, 3) := by decide +kernel
theorem dX2_goForward_10 : decode cX2_goForward 10 = .ok (.aload_n 0, 1) := by decide +kernel
theorem dX2_goForward_11 : decode cX2_goForward 11 = .ok (.iload_n 2, 1) := by decide +kernel
theorem dX2_goForward_12 : decode cX2_goForward 12 = .ok (.invokevirtual 95, 3) := by decide +kernel
theorem dX2_goForward_15 : decode cX2_goForward 15 = .ok (.istore_n 3, 1) := by decide +kernel
theorem dX2_goForward_16 : decode cX2_goForward 16 = .ok (.aload_n 0, 1) := by decide +kernel
theorem dX2_goForward_17 : decode cX2_goForward 17 = .ok (.getfield 24, 3) := by decide +kernel
theorem dX2_goForward_20 : decode cX2_goForward 20 = .ok (.iload_n 2, 1) := by decide +kernel
theorem dX2_goForward_21 : decode cX2_goForward 21 = .ok (.iaload, 1) := by decide +kernel
theorem dX2_goForward_22 : decode cX2_goForward 22 = .ok (.iconst 1, 1) := by decide +kernel
theorem dX2_goForward_23 : decode cX2_goForward 23 = .ok (.if_icmp .ne 59, 3) := by decide +kernel
theorem dX2_goForward_26 : decode cX2_goForward 26 = .ok (.iload_n 3, 1) := by decide +kernel
theorem dX2_goForward_27 : decode cX2_goForward 27 = .ok (.ifCond .lt 55, 3) := by decide +kernel
theorem dX2_goForward_30 : decode cX2_goForward 30 = .ok (.aload_n 0, 1) := by decide +kernel
theorem dX2_goForward_31 : decode cX2_goForward 31 = .ok (.getfield 38, 3) := by decide +kernel
theorem dX2_goForward_34 : decode cX2_goForward 34 = .ok (.iload_n 2, 1) := by decide +kernel
theorem dX2_goForward_35 : decode cX2_goForward 35 = .ok (.aaload, 1) := by decide +kernel
theorem dX2_goForward_36 : decode cX2_goForward 36 = .ok (.iload_n 3, 1) := by decide +kernel
theorem dX2_goForward_37 : decode cX2_goForward 37 = .ok (.iaload, 1) := by decide +kernel
theorem dX2_goForward_38 : decode cX2_goForward 38 = .ok (.iload_n 1, 1) := by decide +kernel
theorem dX2_goForward_39 : decode cX2_goForward 39 = .ok (.if_icmp .lt 43, 3) := by decide +kernel
theorem dX2_goForward_42 : decode cX2_goForward 42 = .ok (.aload_n 0, 1) := by decide +kernel
theorem dX2_goForward_43 : decode cX2_goForward 43 = .ok (.getfield 18, 3) := by decide +kernel
theorem dX2_goForward_46 : decode cX2_goForward 46 = .ok (.iload_n 2, 1) := by decide +kernel
theorem dX2_goForward_47 : decode cX2_goForward 47 = .ok (.dup2, 1) := by decide +kernel
theorem dX2_goForward_48 : decode cX2_goForward 48 = .ok (.iaload, 1) := by decide +kernel
theorem dX2_goForward_49 : decode cX2_goForward 49 = .ok (.iconst 1, 1) := by decide +kernel
theorem dX2_goForward_50 : decode cX2_goForward 50 = .ok (.iadd, 1) := by decide +kernel
theorem dX2_goForward_51 : decode cX2_goForward 51 = .ok (.iastore, 1) := by decide +kernel
theorem dX2_goForward_52 : decode cX2_goForward 52 = .ok (.aload_n 0, 1) := by decide +kernel
theorem dX2_goForward_53 : decode cX2_goForward 53 = .ok (.getfield 18, 3) := by decide +kernel
theorem dX2_goForward_56 : decode cX2_goForward 56 = .ok (.iload_n 2, 1) := by decide +kernel
theorem dX2_goForward_57 : decode cX2_goForward 57 = .ok (.iaload, 1) := by decide +kernel
theorem dX2_goForward_58 : decode cX2_goForward 58 = .ok (.aload_n 0, 1) := by decide +kernel
theorem dX2_goForward_59 : decode cX2_goForward 59 = .ok (.getfield 48, 3) := by decide +kernel
theorem dX2_goForward_62 : decode cX2_goForward 62 = .ok (.if_icmp .lt 20, 3) := by decide +kernel
theorem dX2_goForward_65 : decode cX2_goForward 65 = .ok (.aload_n 0, 1) := by decide +kernel
theorem dX2_goForward_66 : decode cX2_goForward 66 = .ok (.getfield 18, 3) := by decide +kernel
theorem dX2_goForward_69 : decode cX2_goForward 69 = .ok (.iload_n 2, 1) := by decide +kernel
theorem dX2_goForward_70 : decode cX2_goForward 70 = .ok (.iconst 0, 1) := by decide +kernel
theorem dX2_goForward_71 : decode cX2_goForward 71 = .ok (.iastore, 1) := by decide +kernel
theorem dX2_goForward_72 : decode cX2_goForward 72 = .ok (.aload_n 0, 1) := by decide +kernel
theorem dX2_goForward_73 : decode cX2_goForward 73 = .ok (.getfield 21, 3) := by decide +kernel
theorem dX2_goForward_76 : decode cX2_goForward 76 = .ok (.iload_n 2, 1) := by decide +kernel
theorem dX2_goForward_77 : decode cX2_goForward 77 = .ok (.dup2, 1) := by decide +kernel
theorem dX2_goForward_78 : decode cX2_goForward 78 = .ok (.iaload, 1) := by decide +kernel
theorem dX2_goForward_79 : decode cX2_goForward 79 = .ok (.iconst 1, 1) := by decide +kernel
theorem dX2_goForward_80 : decode cX2_goForward 80 = .ok (.iadd, 1) := by decide +kernel
theorem dX2_goForward_81 : decode cX2_goForward 81 = .ok (.iastore, 1) := by decide +kernel
theorem dX2_goForward_82 : decode cX2_goForward 82 = .ok (.iinc 2 1, 3) := by decide +kernel
theorem dX2_goForward_85 : decode cX2_goForward 85 = .ok (.goto (-83), 3) := by decide +kernel
theorem dX2_goForward_88 : decode cX2_goForward 88 = .ok (.return_, 1) := by decide +kernel
theorem dX2_bringHome_0 : decode cX2_bringHome 0 = .ok (.iconst 0, 1) := by decide +kernel
theorem dX2_bringHome_1 : decode cX2_bringHome 1 = .ok (.istore_n 1, 1) := by decide +kernel
theorem dX2_bringHome_2 : decode cX2_bringHome 2 = .ok (.iload_n 1, 1) := by decide +kernel
theorem dX2_bringHome_3 : decode cX2_bringHome 3 = .ok (.aload_n 0, 1) := by decide +kernel
theorem dX2_bringHome_4 : decode cX2_bringHome 4 = .ok (.getfield 44, 3) := by decide +kernel
theorem dX2_bringHome_7 : decode cX2_bringHome 7 = .ok (.if_icmp .ge 95, 3) := by decide +kernel
theorem dX2_bringHome_10 : decode cX2_bringHome 10 = .ok (.iconst 0, 1) := by decide +kernel
theorem dX2_bringHome_11 : decode cX2_bringHome 11 = .ok (.istore_n 2, 1) := by decide +kernel
theorem dX2_bringHome_12 : decode cX2_bringHome 12 = .ok (.iload_n 2, 1) := by decide +kernel
theorem dX2_bringHome_13 : decode cX2_bringHome 13 = .ok (.aload_n 0, 1) := by decide +kernel
theorem dX2_bringHome_14 : decode cX2_bringHome 14 = .ok (.getfield 54, 3) := by decide +kernel
theorem dX2_bringHome_17 : decode cX2_bringHome 17 = .ok (.if_icmp .ge 79, 3) := by decide +kernel
theorem dX2_bringHome_20 : decode cX2_bringHome 20 = .ok (.aload_n 0, 1) := by decide +kernel
theorem dX2_bringHome_21 : decode cX2_bringHome 21 = .ok (.getfield 24, 3) := by decide +kernel
theorem dX2_bringHome_24 : decode cX2_bringHome 24 = .ok (.iload_n 2, 1) := by decide +kernel
theorem dX2_bringHome_25 : decode cX2_bringHome 25 = .ok (.iaload, 1) := by decide +kernel
theorem dX2_bringHome_26 : decode cX2_bringHome 26 = .ok (.iconst 1, 1) := by decide +kernel
theorem dX2_bringHome_27 : decode cX2_bringHome 27 = .ok (.if_icmp .ne 63, 3) := by decide +kernel
theorem dX2_bringHome_30 : decode cX2_bringHome 30 = .ok (.aload_n 0, 1) := by decide +kernel
theorem dX2_bringHome_31 : decode cX2_bringHome 31 = .ok (.getfield 15, 3) := by decide +kernel
theorem dX2_bringHome_34 : decode cX2_bringHome 34 = .ok (.iload_n 2, 1) := by decide +kernel
theorem dX2_bringHome_35 : decode cX2_bringHome 35 = .ok (.iaload, 1) := by decide +kernel
theorem dX2_bringHome_36 : decode cX2_bringHome 36 = .ok (.iload_n 1, 1) := by decide +kernel
theorem dX2_bringHome_37 : decode cX2_bringHome 37 = .ok (.if_icmp .ne 53, 3) := by decide +kernel
theorem dX2_bringHome_40 : decode cX2_bringHome 40 = .ok (.aload_n 0, 1) := by decide +kernel
theorem dX2_bringHome_41 : decode cX2_bringHome 41 = .ok (.getfield 21, 3) := by decide +kernel
theorem dX2_bringHome_44 : decode cX2_bringHome 44 = .ok (.iload_n 2, 1) := by decide +kernel
theorem dX2_bringHome_45 : decode cX2_bringHome 45 = .ok (.iaload, 1) := by decide +kernel
theorem dX2_bringHome_46 : decode cX2_bringHome 46 = .ok (.aload_n 0, 1) := by decide +kernel
theorem dX2_bringHome_47 : decode cX2_bringHome 47 = .ok (.getfield 51, 3) := by decide +kernel
theorem dX2_bringHome_50 : decode cX2_bringHome 50 = .ok (.if_icmp .lt 40, 3) := by decide +kernel
theorem dX2_bringHome_53 : decode cX2_bringHome 53 = .ok (.aload_n 0, 1) := by decide +kernel
theorem dX2_bringHome_54 : decode cX2_bringHome 54 = .ok (.dup, 1) := by decide +kernel
theorem dX2_bringHome_55 : decode cX2_bringHome 55 = .ok (.getfield 60, 3) := by decide +kernel
theorem dX2_bringHome_58 : decode cX2_bringHome 58 = .ok (.iconst 1, 1) := by decide +kernel
theorem dX2_bringHome_59 : decode cX2_bringHome 59 = .ok (.iadd, 1) := by decide +kernel
theorem dX2_bringHome_60 : decode cX2_bringHome 60 = .ok (.putfield 60, 3) := by decide +kernel
theorem dX2_bringHome_63 : decode cX2_bringHome 63 = .ok (.aload_n 0, 1) := by decide +kernel
theorem dX2_bringHome_64 : decode cX2_bringHome 64 = .ok (.getfield 24, 3) := by decide +kernel
theorem dX2_bringHome_67 : decode cX2_bringHome 67 = .ok (.iload_n 2, 1) := by decide +kernel
theorem dX2_bringHome_68 : decode cX2_bringHome 68 = .ok (.iconst 2, 1) := by decide +kernel
theorem dX2_bringHome_69 : decode cX2_bringHome 69 = .ok (.iastore, 1) := by decide +kernel
theorem dX2_bringHome_70 : decode cX2_bringHome 70 = .ok (.aload_n 0, 1) := by decide +kernel
theorem dX2_bringHome_71 : decode cX2_bringHome 71 = .ok (.getfield 27, 3) := by decide +kernel
theorem dX2_bringHome_74 : decode cX2_bringHome 74 = .ok (.iload_n 2, 1) := by decide +kernel
theorem dX2_bringHome_75 : decode cX2_bringHome 75 = .ok (.aload_n 0, 1) := by decide +kernel
theorem dX2_bringHome_76 : decode cX2_bringHome 76 = .ok (.getfield 57, 3) := by decide +kernel
theorem dX2_bringHome_79 : decode cX2_bringHome 79 = .ok (.iastore, 1) := by decide +kernel
theorem dX2_bringHome_80 : decode cX2_bringHome 80 = .ok (.aload_n 0, 1) := by decide +kernel
theorem dX2_bringHome_81 : decode cX2_bringHome 81 = .ok (.getfield 30, 3) := by decide +kernel
theorem dX2_bringHome_84 : decode cX2_bringHome 84 = .ok (.iload_n 2, 1) := by decide +kernel
theorem dX2_bringHome_85 : decode cX2_bringHome 85 = .ok (.aload_n 0, 1) := by decide +kernel
theorem dX2_bringHome_86 : decode cX2_bringHome 86 = .ok (.getfield 60, 3) := by decide +kernel
theorem dX2_bringHome_89 : decode cX2_bringHome 89 = .ok (.iastore, 1) := by decide +kernel
theorem dX2_bringHome_90 : decode cX2_bringHome 90 = .ok (.iinc 2 1, 3) := by decide +kernel
theorem dX2_bringHome_93 : decode cX2_bringHome 93 = .ok (.goto (-81), 3) := by decide +kernel
theorem dX2_bringHome_96 : decode cX2_bringHome 96 = .ok (.iinc 1 1, 3) := by decide +kernel
theorem dX2_bringHome_99 : decode cX2_bringHome 99 = .ok (.goto (-97), 3) := by decide +kernel
theorem dX2_bringHome_102 : decode cX2_bringHome 102 = .ok (.return_, 1) := by decide +kernel
set_option maxRecDepth 20000 in
theorem ggX2_changeLanes_X2_actOf : GoodIn wsX2_changeLanes wsX2_actOf := goodIn_r _ [10, 11, 12, 13, 14, 15, 16, 17, 18, 19, 20, 21, 22, 23, 24, 25, 26, 27, 28, 29, 30, 31, 32, 33] (by decide +kernel) (by decide +kernel)
set_option maxRecDepth 20000 in
theorem gX2_changeLanes_X2_actOf : GoodIn wsX2_changeLanes (wsV RX2 95 RX2 yX2_actOf wsX2_actOf) := goodIn_app (goodIn_of _ (by decide +kernel)) ggX2_changeLanes_X2_actOf
theorem dX2_changeLanes_0 : decode cX2_changeLanes 0 = .ok (.iconst 0, 1) := by decide +kernel
theorem dX2_changeLanes_1 : decode cX2_changeLanes 1 = .ok (.istore_n 1, 1) := by decide +kernel
theorem dX2_changeLanes_2 : decode cX2_changeLanes 2 = .ok (.iload_n 1, 1) := by decide +kernel
theorem dX2_changeLanes_3 : decode cX2_changeLanes 3 = .ok (.aload_n 0, 1) := by decide +kernel
theorem dX2_changeLanes_4 : decode cX2_changeLanes 4 = .ok (.getfield 54, 3) := by decide +kernel
theorem dX2_changeLanes_7 : decode cX2_changeLanes 7 = .ok (.if_icmp .ge 73, 3) := by decide +kernel
theorem dX2_changeLanes_10 : decode cX2_changeLanes 10 = .ok (.aload_n 0, 1) := by decide +kernel
theorem dX2_changeLanes_11 : decode cX2_changeLanes 11 = .ok (.iload_n 1, 1) := by decide +kernel
theorem dX2_changeLanes_12 : decode cX2_changeLanes 12 = .ok (.invokevirtual 95, 3) := by decide +kernel
theorem dX2_changeLanes_15 : decode cX2_changeLanes 15 = .ok (.istore_n 2, 1) := by decide +kernel
theorem dX2_changeLanes_16 : decode cX2_changeLanes 16 = .ok (.aload_n 0, 1) := by decide +kernel
theorem dX2_changeLanes_17 : decode cX2_changeLanes 17 = .ok (.getfield 24, 3) := by decide +kernel
theorem dX2_changeLanes_20 : decode cX2_changeLanes 20 = .ok (.iload_n 1, 1) := by decide +kernel
theorem dX2_changeLanes_21 : decode cX2_changeLanes 21 = .ok (.iaload, 1) := by decide +kernel
theorem dX2_changeLanes_22 : decode cX2_changeLanes 22 = .ok (.iconst 1, 1) := by decide +kernel
theorem dX2_changeLanes_23 : decode cX2_changeLanes 23 = .ok (.if_icmp .ne 51, 3) := by decide +kernel
theorem dX2_changeLanes_26 : decode cX2_changeLanes 26 = .ok (.iload_n 2, 1) := by decide +kernel
theorem dX2_changeLanes_27 : decode cX2_changeLanes 27 = .ok (.ifCond .lt 47, 3) := by decide +kernel
theorem dX2_changeLanes_30 : decode cX2_changeLanes 30 = .ok (.aload_n 0, 1) := by decide +kernel
theorem dX2_changeLanes_31 : decode cX2_changeLanes 31 = .ok (.getfield 15, 3) := by decide +kernel
theorem dX2_changeLanes_34 : decode cX2_changeLanes 34 = .ok (.iload_n 1, 1) := by decide +kernel
theorem dX2_changeLanes_35 : decode cX2_changeLanes 35 = .ok (.iaload, 1) := by decide +kernel
theorem dX2_changeLanes_36 : decode cX2_changeLanes 36 = .ok (.aload_n 0, 1) := by decide +kernel
theorem dX2_changeLanes_37 : decode cX2_changeLanes 37 = .ok (.getfield 41, 3) := by decide +kernel
theorem dX2_changeLanes_40 : decode cX2_changeLanes 40 = .ok (.iload_n 1, 1) := by decide +kernel
theorem dX2_changeLanes_41 : decode cX2_changeLanes 41 = .ok (.aaload, 1) := by decide +kernel
theorem dX2_changeLanes_42 : decode cX2_changeLanes 42 = .ok (.iload_n 2, 1) := by decide +kernel
theorem dX2_changeLanes_43 : decode cX2_changeLanes 43 = .ok (.iaload, 1) := by decide +kernel
theorem dX2_changeLanes_44 : decode cX2_changeLanes 44 = .ok (.iadd, 1) := by decide +kernel
theorem dX2_changeLanes_45 : decode cX2_changeLanes 45 = .ok (.istore_n 3, 1) := by decide +kernel
theorem dX2_changeLanes_46 : decode cX2_changeLanes 46 = .ok (.aload_n 0, 1) := by decide +kernel
theorem dX2_changeLanes_47 : decode cX2_changeLanes 47 = .ok (.getfield 15, 3) := by decide +kernel
theorem dX2_changeLanes_50 : decode cX2_changeLanes 50 = .ok (.iload_n 1, 1) := by decide +kernel
theorem dX2_changeLanes_51 : decode cX2_changeLanes 51 = .ok (.iload_n 3, 1) := by decide +kernel
theorem dX2_changeLanes_52 : decode cX2_changeLanes 52 = .ok (.ifCond .lt 15, 3) := by decide +kernel
theorem dX2_changeLanes_55 : decode cX2_changeLanes 55 = .ok (.iload_n 3, 1) := by decide +kernel
theorem dX2_changeLanes_56 : decode cX2_changeLanes 56 = .ok (.aload_n 0, 1) := by decide +kernel
theorem dX2_changeLanes_57 : decode cX2_changeLanes 57 = .ok (.getfield 44, 3) := by decide +kernel
theorem dX2_changeLanes_60 : decode cX2_changeLanes 60 = .ok (.if_icmp .ge 7, 3) := by decide +kernel
theorem dX2_changeLanes_63 : decode cX2_changeLanes 63 = .ok (.iload_n 3, 1) := by decide +kernel
theorem dX2_changeLanes_64 : decode cX2_changeLanes 64 = .ok (.goto 9, 3) := by decide +kernel
theorem dX2_changeLanes_67 : decode cX2_changeLanes 67 = .ok (.aload_n 0, 1) := by decide +kernel
theorem dX2_changeLanes_68 : decode cX2_changeLanes 68 = .ok (.getfield 15, 3) := by decide +kernel
theorem dX2_changeLanes_71 : decode cX2_changeLanes 71 = .ok (.iload_n 1, 1) := by decide +kernel
theorem dX2_changeLanes_72 : decode cX2_changeLanes 72 = .ok (.iaload, 1) := by decide +kernel
theorem dX2_changeLanes_73 : decode cX2_changeLanes 73 = .ok (.iastore, 1) := by decide +kernel
theorem dX2_changeLanes_74 : decode cX2_changeLanes 74 = .ok (.iinc 1 1, 3) := by decide +kernel
theorem dX2_changeLanes_77 : decode cX2_changeLanes 77 = .ok (.goto (-75), 3) := by decide +kernel
theorem dX2_changeLanes_80 : decode cX2_changeLanes 80 = .ok (.return_, 1) := by decide +kernel
set_option maxRecDepth 20000 in
theorem ggX2_crash_X2_sharesCell : GoodIn wsX2_crash wsX2_sharesCell := goodIn_r _ [9, 2, 1, 10, 11, 15, 16, 17, 18, 19, 20, 21, 22, 23, 24, 25, 26, 27, 28, 29, 30] (by decide +kernel) (by decide +kernel)
set_option maxRecDepth 20000 in
theorem gX2_crash_X2_sharesCell : GoodIn wsX2_crash (wsV RX2 99 RX2 yX2_sharesCell wsX2_sharesCell) := goodIn_app (goodIn_of _ (by decide +kernel)) ggX2_crash_X2_sharesCell
set_option maxRecDepth 20000 in
theorem ggX2_crash_X4_hasBit : GoodIn wsX2_crash wsX4_hasBit := goodIn_r _ [14] (by decide +kernel) (by decide +kernel)
set_option maxRecDepth 20000 in
theorem gX2_crash_X4_hasBit_n102 : GoodIn wsX2_crash (wsX4_hasBit) := ggX2_crash_X4_hasBit
theorem dX2_crash_0 : decode cX2_crash 0 = .ok (.iconst 0, 1) := by decide +kernel
theorem dX2_crash_1 : decode cX2_crash 1 = .ok (.istore_n 1, 1) := by decide +kernel
theorem dX2_crash_2 : decode cX2_crash 2 = .ok (.iconst 0, 1) := by decide +kernel
theorem dX2_crash_3 : decode cX2_crash 3 = .ok (.istore_n 2, 1) := by decide +kernel
theorem dX2_crash_4 : decode cX2_crash 4 = .ok (.iload_n 2, 1) := by decide +kernel
theorem dX2_crash_5 : decode cX2_crash 5 = .ok (.aload_n 0, 1) := by decide +kernel
theorem dX2_crash_6 : decode cX2_crash 6 = .ok (.getfield 54, 3) := by decide +kernel
theorem dX2_crash_9 : decode cX2_crash 9 = .ok (.if_icmp .ge 23, 3) := by decide +kernel
theorem dX2_crash_12 : decode cX2_crash 12 = .ok (.aload_n 0, 1) := by decide +kernel
theorem dX2_crash_13 : decode cX2_crash 13 = .ok (.iload_n 2, 1) := by decide +kernel
theorem dX2_crash_14 : decode cX2_crash 14 = .ok (.invokevirtual 99, 3) := by decide +kernel
theorem dX2_crash_17 : decode cX2_crash 17 = .ok (.ifCond .eq 9, 3) := by decide +kernel
theorem dX2_crash_20 : decode cX2_crash 20 = .ok (.iload_n 1, 1) := by decide +kernel
theorem dX2_crash_21 : decode cX2_crash 21 = .ok (.iconst 1, 1) := by decide +kernel
theorem dX2_crash_22 : decode cX2_crash 22 = .ok (.iload_n 2, 1) := by decide +kernel
theorem dX2_crash_23 : decode cX2_crash 23 = .ok (.ishl, 1) := by decide +kernel
theorem dX2_crash_24 : decode cX2_crash 24 = .ok (.ior, 1) := by decide +kernel
theorem dX2_crash_25 : decode cX2_crash 25 = .ok (.istore_n 1, 1) := by decide +kernel
theorem dX2_crash_26 : decode cX2_crash 26 = .ok (.iinc 2 1, 3) := by decide +kernel
theorem dX2_crash_29 : decode cX2_crash 29 = .ok (.goto (-25), 3) := by decide +kernel
theorem dX2_crash_32 : decode cX2_crash 32 = .ok (.iconst 0, 1) := by decide +kernel
theorem dX2_crash_33 : decode cX2_crash 33 = .ok (.istore_n 2, 1) := by decide +kernel
theorem dX2_crash_34 : decode cX2_crash 34 = .ok (.iload_n 2, 1) := by decide +kernel
theorem dX2_crash_35 : decode cX2_crash 35 = .ok (.aload_n 0, 1) := by decide +kernel
theorem dX2_crash_36 : decode cX2_crash 36 = .ok (.getfield 54, 3) := by decide +kernel
theorem dX2_crash_39 : decode cX2_crash 39 = .ok (.if_icmp .ge 34, 3) := by decide +kernel
theorem dX2_crash_42 : decode cX2_crash 42 = .ok (.iload_n 1, 1) := by decide +kernel
theorem dX2_crash_43 : decode cX2_crash 43 = .ok (.iload_n 2, 1) := by decide +kernel
theorem dX2_crash_44 : decode cX2_crash 44 = .ok (.invokestatic 102, 3) := by decide +kernel
theorem dX2_crash_47 : decode cX2_crash 47 = .ok (.ifCond .eq 20, 3) := by decide +kernel
theorem dX2_crash_50 : decode cX2_crash 50 = .ok (.aload_n 0, 1) := by decide +kernel
theorem dX2_crash_51 : decode cX2_crash 51 = .ok (.getfield 24, 3) := by decide +kernel
theorem dX2_crash_54 : decode cX2_crash 54 = .ok (.iload_n 2, 1) := by decide +kernel
theorem dX2_crash_55 : decode cX2_crash 55 = .ok (.iconst 3, 1) := by decide +kernel
theorem dX2_crash_56 : decode cX2_crash 56 = .ok (.iastore, 1) := by decide +kernel
theorem dX2_crash_57 : decode cX2_crash 57 = .ok (.aload_n 0, 1) := by decide +kernel
theorem dX2_crash_58 : decode cX2_crash 58 = .ok (.getfield 27, 3) := by decide +kernel
theorem dX2_crash_61 : decode cX2_crash 61 = .ok (.iload_n 2, 1) := by decide +kernel
theorem dX2_crash_62 : decode cX2_crash 62 = .ok (.aload_n 0, 1) := by decide +kernel
theorem dX2_crash_63 : decode cX2_crash 63 = .ok (.getfield 57, 3) := by decide +kernel
theorem dX2_crash_66 : decode cX2_crash 66 = .ok (.iastore, 1) := by decide +kernel
theorem dX2_crash_67 : decode cX2_crash 67 = .ok (.iinc 2 1, 3) := by decide +kernel
theorem dX2_crash_70 : decode cX2_crash 70 = .ok (.goto (-36), 3) := by decide +kernel
theorem dX2_crash_73 : decode cX2_crash 73 = .ok (.return_, 1) := by decide +kernel
theorem dX2_sharesCell_0 : decode cX2_sharesCell 0 = .ok (.aload_n 0, 1) := by decide +kernel
theorem dX2_sharesCell_1 : decode cX2_sharesCell 1 = .ok (.getfield 24, 3) := by decide +kernel
theorem dX2_sharesCell_4 : decode cX2_sharesCell 4 = .ok (.iload_n 1, 1) := by decide +kernel
theorem dX2_sharesCell_5 : decode cX2_sharesCell 5 = .ok (.iaload, 1) := by decide +kernel
theorem dX2_sharesCell_6 : decode cX2_sharesCell 6 = .ok (.iconst 1, 1) := by decide +kernel
theorem dX2_sharesCell_7 : decode cX2_sharesCell 7 = .ok (.if_icmp .eq 5, 3) := by decide +kernel
theorem dX2_sharesCell_10 : decode cX2_sharesCell 10 = .ok (.iconst 0, 1) := by decide +kernel
theorem dX2_sharesCell_11 : decode cX2_sharesCell 11 = .ok (.ireturn, 1) := by decide +kernel
theorem dX2_sharesCell_12 : decode cX2_sharesCell 12 = .ok (.iconst 0, 1) := by decide +kernel
theorem dX2_sharesCell_13 : decode cX2_sharesCell 13 = .ok (.istore_n 2, 1) := by decide +kernel
theorem dX2_sharesCell_14 : decode cX2_sharesCell 14 = .ok (.iload_n 2, 1) := by decide +kernel
theorem dX2_sharesCell_15 : decode cX2_sharesCell 15 = .ok (.aload_n 0, 1) := by decide +kernel
theorem dX2_sharesCell_16 : decode cX2_sharesCell 16 = .ok (.getfield 54, 3) := by decide +kernel
theorem dX2_sharesCell_19 : decode cX2_sharesCell 19 = .ok (.if_icmp .ge 56, 3) := by decide +kernel
theorem dX2_sharesCell_22 : decode cX2_sharesCell 22 = .ok (.iload_n 2, 1) := by decide +kernel
theorem dX2_sharesCell_23 : decode cX2_sharesCell 23 = .ok (.iload_n 1, 1) := by decide +kernel
theorem dX2_sharesCell_24 : decode cX2_sharesCell 24 = .ok (.if_icmp .eq 45, 3) := by decide +kernel
theorem dX2_sharesCell_27 : decode cX2_sharesCell 27 = .ok (.aload_n 0, 1) := by decide +kernel
theorem dX2_sharesCell_28 : decode cX2_sharesCell 28 = .ok (.getfield 24, 3) := by decide +kernel
theorem dX2_sharesCell_31 : decode cX2_sharesCell 31 = .ok (.iload_n 2, 1) := by decide +kernel
theorem dX2_sharesCell_32 : decode cX2_sharesCell 32 = .ok (.iaload, 1) := by decide +kernel
theorem dX2_sharesCell_33 : decode cX2_sharesCell 33 = .ok (.iconst 1, 1) := by decide +kernel
theorem dX2_sharesCell_34 : decode cX2_sharesCell 34 = .ok (.if_icmp .ne 35, 3) := by decide +kernel
theorem dX2_sharesCell_37 : decode cX2_sharesCell 37 = .ok (.aload_n 0, 1) := by decide +kernel
theorem dX2_sharesCell_38 : decode cX2_sharesCell 38 = .ok (.getfield 15, 3) := by decide +kernel
theorem dX2_sharesCell_41 : decode cX2_sharesCell 41 = .ok (.iload_n 2, 1) := by decide +kernel
theorem dX2_sharesCell_42 : decode cX2_sharesCell 42 = .ok (.iaload, 1) := by decide +kernel
theorem dX2_sharesCell_43 : decode cX2_sharesCell 43 = .ok (.aload_n 0, 1) := by decide +kernel
theorem dX2_sharesCell_44 : decode cX2_sharesCell 44 = .ok (.getfield 15, 3) := by decide +kernel
theorem dX2_sharesCell_47 : decode cX2_sharesCell 47 = .ok (.iload_n 1, 1) := by decide +kernel
theorem dX2_sharesCell_48 : decode cX2_sharesCell 48 = .ok (.iaload, 1) := by decide +kernel
theorem dX2_sharesCell_49 : decode cX2_sharesCell 49 = .ok (.if_icmp .ne 20, 3) := by decide +kernel
theorem dX2_sharesCell_52 : decode cX2_sharesCell 52 = .ok (.aload_n 0, 1) := by decide +kernel
theorem dX2_sharesCell_53 : decode cX2_sharesCell 53 = .ok (.getfield 18, 3) := by decide +kernel
theorem dX2_sharesCell_56 : decode cX2_sharesCell 56 = .ok (.iload_n 2, 1) := by decide +kernel
theorem dX2_sharesCell_57 : decode cX2_sharesCell 57 = .ok (.iaload, 1) := by decide +kernel
theorem dX2_sharesCell_58 : decode cX2_sharesCell 58 = .ok (.aload_n 0, 1) := by decide +kernel
theorem dX2_sharesCell_59 : decode cX2_sharesCell 59 = .ok (.getfield 18, 3) := by decide +kernel
theorem dX2_sharesCell_62 : decode cX2_sharesCell 62 = .ok (.iload_n 1, 1) := by decide +kernel
theorem dX2_sharesCell_63 : decode cX2_sharesCell 63 = .ok (.iaload, 1) := by decide +kernel
theorem dX2_sharesCell_64 : decode cX2_sharesCell 64 = .ok (.if_icmp .ne 5, 3) := by decide +kernel
theorem dX2_sharesCell_67 : decode cX2_sharesCell 67 = .ok (.iconst 1, 1) := by decide +kernel
theorem dX2_sharesCell_68 : decode cX2_sharesCell 68 = .ok (.ireturn, 1) := by decide +kernel
theorem dX2_sharesCell_69 : decode cX2_sharesCell 69 = .ok (.iinc 2 1, 3) := by decide +kernel
theorem dX2_sharesCell_72 : decode cX2_sharesCell 72 = .ok (.goto (-58), 3) := by decide +kernel
theorem dX2_sharesCell_75 : decode cX2_sharesCell 75 = .ok (.iconst 0, 1) := by decide +kernel
theorem dX2_sharesCell_76 : decode cX2_sharesCell 76 = .ok (.ireturn, 1) := by decide +kernel
set_option maxRecDepth 20000 in
theorem ggX2_tell_X2_isChariot : GoodIn wsX2_tell wsX2_isChariot := goodIn_r _ [11, 12, 13, 14, 15, 16, 17, 18, 19, 20, 21, 22, 23, 24, 25, 26, 27, 28] (by decide +kernel) (by decide +kernel)
set_option maxRecDepth 20000 in
theorem gX2_tell_X2_isChariot : GoodIn wsX2_tell (wsV RX2 67 RX2 yX2_isChariot wsX2_isChariot) := goodIn_app (goodIn_of _ (by decide +kernel)) ggX2_tell_X2_isChariot
theorem dX2_tell_0 : decode cX2_tell 0 = .ok (.aload_n 0, 1) := by decide +kernel
theorem dX2_tell_1 : decode cX2_tell 1 = .ok (.iload_n 1, 1) := by decide +kernel
theorem dX2_tell_2 : decode cX2_tell 2 = .ok (.invokevirtual 67, 3) := by decide +kernel
theorem dX2_tell_5 : decode cX2_tell 5 = .ok (.ifCond .ne 5, 3) := by decide +kernel
theorem dX2_tell_8 : decode cX2_tell 8 = .ok (.iconst (-1), 1) := by decide +kernel
theorem dX2_tell_9 : decode cX2_tell 9 = .ok (.ireturn, 1) := by decide +kernel
theorem dX2_tell_10 : decode cX2_tell 10 = .ok (.iload_n 2, 1) := by decide +kernel
theorem dX2_tell_11 : decode cX2_tell 11 = .ok (.tableswitch 79 0 5 #[37, 44, 51, 58, 65, 72], 37) := by decide +kernel
theorem dX2_tell_48 : decode cX2_tell 48 = .ok (.aload_n 0, 1) := by decide +kernel
theorem dX2_tell_49 : decode cX2_tell 49 = .ok (.getfield 24, 3) := by decide +kernel
theorem dX2_tell_52 : decode cX2_tell 52 = .ok (.iload_n 1, 1) := by decide +kernel
theorem dX2_tell_53 : decode cX2_tell 53 = .ok (.iaload, 1) := by decide +kernel
theorem dX2_tell_54 : decode cX2_tell 54 = .ok (.ireturn, 1) := by decide +kernel
theorem dX2_tell_55 : decode cX2_tell 55 = .ok (.aload_n 0, 1) := by decide +kernel
theorem dX2_tell_56 : decode cX2_tell 56 = .ok (.getfield 15, 3) := by decide +kernel
theorem dX2_tell_59 : decode cX2_tell 59 = .ok (.iload_n 1, 1) := by decide +kernel
theorem dX2_tell_60 : decode cX2_tell 60 = .ok (.iaload, 1) := by decide +kernel
theorem dX2_tell_61 : decode cX2_tell 61 = .ok (.ireturn, 1) := by decide +kernel
theorem dX2_tell_62 : decode cX2_tell 62 = .ok (.aload_n 0, 1) := by decide +kernel
theorem dX2_tell_63 : decode cX2_tell 63 = .ok (.getfield 18, 3) := by decide +kernel
theorem dX2_tell_66 : decode cX2_tell 66 = .ok (.iload_n 1, 1) := by decide +kernel
theorem dX2_tell_67 : decode cX2_tell 67 = .ok (.iaload, 1) := by decide +kernel
theorem dX2_tell_68 : decode cX2_tell 68 = .ok (.ireturn, 1) := by decide +kernel
theorem dX2_tell_69 : decode cX2_tell 69 = .ok (.aload_n 0, 1) := by decide +kernel
theorem dX2_tell_70 : decode cX2_tell 70 = .ok (.getfield 21, 3) := by decide +kernel
theorem dX2_tell_73 : decode cX2_tell 73 = .ok (.iload_n 1, 1) := by decide +kernel
theorem dX2_tell_74 : decode cX2_tell 74 = .ok (.iaload, 1) := by decide +kernel
theorem dX2_tell_75 : decode cX2_tell 75 = .ok (.ireturn, 1) := by decide +kernel
theorem dX2_tell_76 : decode cX2_tell 76 = .ok (.aload_n 0, 1) := by decide +kernel
theorem dX2_tell_77 : decode cX2_tell 77 = .ok (.getfield 27, 3) := by decide +kernel
theorem dX2_tell_80 : decode cX2_tell 80 = .ok (.iload_n 1, 1) := by decide +kernel
theorem dX2_tell_81 : decode cX2_tell 81 = .ok (.iaload, 1) := by decide +kernel
theorem dX2_tell_82 : decode cX2_tell 82 = .ok (.ireturn, 1) := by decide +kernel
theorem dX2_tell_83 : decode cX2_tell 83 = .ok (.aload_n 0, 1) := by decide +kernel
theorem dX2_tell_84 : decode cX2_tell 84 = .ok (.getfield 30, 3) := by decide +kernel
theorem dX2_tell_87 : decode cX2_tell 87 = .ok (.iload_n 1, 1) := by decide +kernel
theorem dX2_tell_88 : decode cX2_tell 88 = .ok (.iaload, 1) := by decide +kernel
theorem dX2_tell_89 : decode cX2_tell 89 = .ok (.ireturn, 1) := by decide +kernel
theorem dX2_tell_90 : decode cX2_tell 90 = .ok (.iconst (-1), 1) := by decide +kernel
theorem dX2_tell_91 : decode cX2_tell 91 = .ok (.ireturn, 1) := by decide +kernel
