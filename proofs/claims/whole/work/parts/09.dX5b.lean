theorem dX5_track_0 : decode cX5_track 0 = .ok (.iload_n 1, 1) := by decide +kernel
theorem dX5_track_1 : decode cX5_track 1 = .ok (.iconst 1, 1) := by decide +kernel
theorem dX5_track_2 : decode cX5_track 2 = .ok (.bipush 8, 2) := by decide +kernel
theorem dX5_track_4 : decode cX5_track 4 = .ok (.invokestatic 96, 3) := by decide +kernel
theorem dX5_track_7 : decode cX5_track 7 = .ok (.ifCond .eq 23, 3) := by decide +kernel
theorem dX5_track_10 : decode cX5_track 10 = .ok (.iload_n 2, 1) := by decide +kernel
theorem dX5_track_11 : decode cX5_track 11 = .ok (.iconst 4, 1) := by decide +kernel
theorem dX5_track_12 : decode cX5_track 12 = .ok (.bipush 60, 2) := by decide +kernel
theorem dX5_track_14 : decode cX5_track 14 = .ok (.invokestatic 96, 3) := by decide +kernel
theorem dX5_track_17 : decode cX5_track 17 = .ok (.ifCond .eq 13, 3) := by decide +kernel
theorem dX5_track_20 : decode cX5_track 20 = .ok (.iload_n 3, 1) := by decide +kernel
theorem dX5_track_21 : decode cX5_track 21 = .ok (.iconst 1, 1) := by decide +kernel
theorem dX5_track_22 : decode cX5_track 22 = .ok (.bipush 9, 2) := by decide +kernel
theorem dX5_track_24 : decode cX5_track 24 = .ok (.invokestatic 96, 3) := by decide +kernel
theorem dX5_track_27 : decode cX5_track 27 = .ok (.ifCond .ne 5, 3) := by decide +kernel
theorem dX5_track_30 : decode cX5_track 30 = .ok (.iconst 0, 1) := by decide +kernel
theorem dX5_track_31 : decode cX5_track 31 = .ok (.ireturn, 1) := by decide +kernel
theorem dX5_track_32 : decode cX5_track 32 = .ok (.aload_n 0, 1) := by decide +kernel
theorem dX5_track_33 : decode cX5_track 33 = .ok (.iload_n 1, 1) := by decide +kernel
theorem dX5_track_34 : decode cX5_track 34 = .ok (.putfield 159, 3) := by decide +kernel
theorem dX5_track_37 : decode cX5_track 37 = .ok (.aload_n 0, 1) := by decide +kernel
theorem dX5_track_38 : decode cX5_track 38 = .ok (.iload_n 2, 1) := by decide +kernel
theorem dX5_track_39 : decode cX5_track 39 = .ok (.putfield 162, 3) := by decide +kernel
theorem dX5_track_42 : decode cX5_track 42 = .ok (.aload_n 0, 1) := by decide +kernel
theorem dX5_track_43 : decode cX5_track 43 = .ok (.iload_n 3, 1) := by decide +kernel
theorem dX5_track_44 : decode cX5_track 44 = .ok (.putfield 165, 3) := by decide +kernel
theorem dX5_track_47 : decode cX5_track 47 = .ok (.aload_n 0, 1) := by decide +kernel
theorem dX5_track_48 : decode cX5_track 48 = .ok (.iconst 0, 1) := by decide +kernel
theorem dX5_track_49 : decode cX5_track 49 = .ok (.putfield 168, 3) := by decide +kernel
theorem dX5_track_52 : decode cX5_track 52 = .ok (.aload_n 0, 1) := by decide +kernel
theorem dX5_track_53 : decode cX5_track 53 = .ok (.iconst 0, 1) := by decide +kernel
theorem dX5_track_54 : decode cX5_track 54 = .ok (.putfield 171, 3) := by decide +kernel
theorem dX5_track_57 : decode cX5_track 57 = .ok (.aload_n 0, 1) := by decide +kernel
theorem dX5_track_58 : decode cX5_track 58 = .ok (.iconst 0, 1) := by decide +kernel
theorem dX5_track_59 : decode cX5_track 59 = .ok (.putfield 174, 3) := by decide +kernel
theorem dX5_track_62 : decode cX5_track 62 = .ok (.iconst 1, 1) := by decide +kernel
theorem dX5_track_63 : decode cX5_track 63 = .ok (.ireturn, 1) := by decide +kernel
set_option maxRecDepth 20000 in
theorem ggX5_chariot_X5_in : GoodIn wsX5_chariot wsX5_in := goodIn_r _ [15] (by decide +kernel) (by decide +kernel)
set_option maxRecDepth 20000 in
theorem gX5_chariot_X5_in : GoodIn wsX5_chariot (va_wsS RX5 96 yX5_in wsX5_in) := goodIn_app (goodIn_of _ (by decide +kernel)) ggX5_chariot_X5_in
theorem dX5_chariot_0 : decode cX5_chariot 0 = .ok (.aload_n 0, 1) := by decide +kernel
theorem dX5_chariot_1 : decode cX5_chariot 1 = .ok (.getfield 159, 3) := by decide +kernel
theorem dX5_chariot_4 : decode cX5_chariot 4 = .ok (.ifCond .eq 43, 3) := by decide +kernel
theorem dX5_chariot_7 : decode cX5_chariot 7 = .ok (.iload_n 1, 1) := by decide +kernel
theorem dX5_chariot_8 : decode cX5_chariot 8 = .ok (.iconst 0, 1) := by decide +kernel
theorem dX5_chariot_9 : decode cX5_chariot 9 = .ok (.aload_n 0, 1) := by decide +kernel
theorem dX5_chariot_10 : decode cX5_chariot 10 = .ok (.getfield 159, 3) := by decide +kernel
theorem dX5_chariot_13 : decode cX5_chariot 13 = .ok (.iconst 1, 1) := by decide +kernel
theorem dX5_chariot_14 : decode cX5_chariot 14 = .ok (.isub, 1) := by decide +kernel
theorem dX5_chariot_15 : decode cX5_chariot 15 = .ok (.invokestatic 96, 3) := by decide +kernel
theorem dX5_chariot_18 : decode cX5_chariot 18 = .ok (.ifCond .eq 29, 3) := by decide +kernel
theorem dX5_chariot_21 : decode cX5_chariot 21 = .ok (.iload_n 2, 1) := by decide +kernel
theorem dX5_chariot_22 : decode cX5_chariot 22 = .ok (.iconst 0, 1) := by decide +kernel
theorem dX5_chariot_23 : decode cX5_chariot 23 = .ok (.bipush 20, 2) := by decide +kernel
theorem dX5_chariot_25 : decode cX5_chariot 25 = .ok (.invokestatic 96, 3) := by decide +kernel
theorem dX5_chariot_28 : decode cX5_chariot 28 = .ok (.ifCond .eq 19, 3) := by decide +kernel
theorem dX5_chariot_31 : decode cX5_chariot 31 = .ok (.aload_n 0, 1) := by decide +kernel
theorem dX5_chariot_32 : decode cX5_chariot 32 = .ok (.getfield 171, 3) := by decide +kernel
theorem dX5_chariot_35 : decode cX5_chariot 35 = .ok (.bipush 8, 2) := by decide +kernel
theorem dX5_chariot_37 : decode cX5_chariot 37 = .ok (.if_icmp .eq 10, 3) := by decide +kernel
theorem dX5_chariot_40 : decode cX5_chariot 40 = .ok (.aload_n 0, 1) := by decide +kernel
theorem dX5_chariot_41 : decode cX5_chariot 41 = .ok (.getfield 168, 3) := by decide +kernel
theorem dX5_chariot_44 : decode cX5_chariot 44 = .ok (.ifCond .le 5, 3) := by decide +kernel
theorem dX5_chariot_47 : decode cX5_chariot 47 = .ok (.iconst (-1), 1) := by decide +kernel
theorem dX5_chariot_48 : decode cX5_chariot 48 = .ok (.ireturn, 1) := by decide +kernel
theorem dX5_chariot_49 : decode cX5_chariot 49 = .ok (.iconst 0, 1) := by decide +kernel
theorem dX5_chariot_50 : decode cX5_chariot 50 = .ok (.istore_n 3, 1) := by decide +kernel
theorem dX5_chariot_51 : decode cX5_chariot 51 = .ok (.iload_n 3, 1) := by decide +kernel
theorem dX5_chariot_52 : decode cX5_chariot 52 = .ok (.aload_n 0, 1) := by decide +kernel
theorem dX5_chariot_53 : decode cX5_chariot 53 = .ok (.getfield 171, 3) := by decide +kernel
theorem dX5_chariot_56 : decode cX5_chariot 56 = .ok (.if_icmp .ge 21, 3) := by decide +kernel
theorem dX5_chariot_59 : decode cX5_chariot 59 = .ok (.aload_n 0, 1) := by decide +kernel
theorem dX5_chariot_60 : decode cX5_chariot 60 = .ok (.getfield 45, 3) := by decide +kernel
theorem dX5_chariot_63 : decode cX5_chariot 63 = .ok (.iload_n 3, 1) := by decide +kernel
theorem dX5_chariot_64 : decode cX5_chariot 64 = .ok (.iaload, 1) := by decide +kernel
theorem dX5_chariot_65 : decode cX5_chariot 65 = .ok (.iload_n 1, 1) := by decide +kernel
theorem dX5_chariot_66 : decode cX5_chariot 66 = .ok (.if_icmp .ne 5, 3) := by decide +kernel
theorem dX5_chariot_69 : decode cX5_chariot 69 = .ok (.iconst (-1), 1) := by decide +kernel
theorem dX5_chariot_70 : decode cX5_chariot 70 = .ok (.ireturn, 1) := by decide +kernel
theorem dX5_chariot_71 : decode cX5_chariot 71 = .ok (.iinc 3 1, 3) := by decide +kernel
theorem dX5_chariot_74 : decode cX5_chariot 74 = .ok (.goto (-23), 3) := by decide +kernel
theorem dX5_chariot_77 : decode cX5_chariot 77 = .ok (.aload_n 0, 1) := by decide +kernel
theorem dX5_chariot_78 : decode cX5_chariot 78 = .ok (.getfield 42, 3) := by decide +kernel
theorem dX5_chariot_81 : decode cX5_chariot 81 = .ok (.aload_n 0, 1) := by decide +kernel
theorem dX5_chariot_82 : decode cX5_chariot 82 = .ok (.getfield 171, 3) := by decide +kernel
theorem dX5_chariot_85 : decode cX5_chariot 85 = .ok (.iconst 0, 1) := by decide +kernel
theorem dX5_chariot_86 : decode cX5_chariot 86 = .ok (.iastore, 1) := by decide +kernel
theorem dX5_chariot_87 : decode cX5_chariot 87 = .ok (.aload_n 0, 1) := by decide +kernel
theorem dX5_chariot_88 : decode cX5_chariot 88 = .ok (.getfield 45, 3) := by decide +kernel
theorem dX5_chariot_91 : decode cX5_chariot 91 = .ok (.aload_n 0, 1) := by decide +kernel
theorem dX5_chariot_92 : decode cX5_chariot 92 = .ok (.getfield 171, 3) := by decide +kernel
theorem dX5_chariot_95 : decode cX5_chariot 95 = .ok (.iload_n 1, 1) := by decide +kernel
theorem dX5_chariot_96 : decode cX5_chariot 96 = .ok (.iastore, 1) := by decide +kernel
theorem dX5_chariot_97 : decode cX5_chariot 97 = .ok (.aload_n 0, 1) := by decide +kernel
theorem dX5_chariot_98 : decode cX5_chariot 98 = .ok (.getfield 48, 3) := by decide +kernel
theorem dX5_chariot_101 : decode cX5_chariot 101 = .ok (.aload_n 0, 1) := by decide +kernel
theorem dX5_chariot_102 : decode cX5_chariot 102 = .ok (.getfield 171, 3) := by decide +kernel
theorem dX5_chariot_105 : decode cX5_chariot 105 = .ok (.iconst 0, 1) := by decide +kernel
theorem dX5_chariot_106 : decode cX5_chariot 106 = .ok (.iastore, 1) := by decide +kernel
theorem dX5_chariot_107 : decode cX5_chariot 107 = .ok (.aload_n 0, 1) := by decide +kernel
theorem dX5_chariot_108 : decode cX5_chariot 108 = .ok (.getfield 51, 3) := by decide +kernel
theorem dX5_chariot_111 : decode cX5_chariot 111 = .ok (.aload_n 0, 1) := by decide +kernel
theorem dX5_chariot_112 : decode cX5_chariot 112 = .ok (.getfield 171, 3) := by decide +kernel
theorem dX5_chariot_115 : decode cX5_chariot 115 = .ok (.iconst 0, 1) := by decide +kernel
theorem dX5_chariot_116 : decode cX5_chariot 116 = .ok (.iastore, 1) := by decide +kernel
theorem dX5_chariot_117 : decode cX5_chariot 117 = .ok (.aload_n 0, 1) := by decide +kernel
theorem dX5_chariot_118 : decode cX5_chariot 118 = .ok (.getfield 54, 3) := by decide +kernel
theorem dX5_chariot_121 : decode cX5_chariot 121 = .ok (.aload_n 0, 1) := by decide +kernel
theorem dX5_chariot_122 : decode cX5_chariot 122 = .ok (.getfield 171, 3) := by decide +kernel
theorem dX5_chariot_125 : decode cX5_chariot 125 = .ok (.iconst 0, 1) := by decide +kernel
theorem dX5_chariot_126 : decode cX5_chariot 126 = .ok (.iastore, 1) := by decide +kernel
theorem dX5_chariot_127 : decode cX5_chariot 127 = .ok (.aload_n 0, 1) := by decide +kernel
theorem dX5_chariot_128 : decode cX5_chariot 128 = .ok (.getfield 57, 3) := by decide +kernel
theorem dX5_chariot_131 : decode cX5_chariot 131 = .ok (.aload_n 0, 1) := by decide +kernel
theorem dX5_chariot_132 : decode cX5_chariot 132 = .ok (.getfield 171, 3) := by decide +kernel
theorem dX5_chariot_135 : decode cX5_chariot 135 = .ok (.iconst 0, 1) := by decide +kernel
theorem dX5_chariot_136 : decode cX5_chariot 136 = .ok (.iastore, 1) := by decide +kernel
theorem dX5_chariot_137 : decode cX5_chariot 137 = .ok (.aload_n 0, 1) := by decide +kernel
theorem dX5_chariot_138 : decode cX5_chariot 138 = .ok (.getfield 60, 3) := by decide +kernel
theorem dX5_chariot_141 : decode cX5_chariot 141 = .ok (.aload_n 0, 1) := by decide +kernel
theorem dX5_chariot_142 : decode cX5_chariot 142 = .ok (.getfield 171, 3) := by decide +kernel
theorem dX5_chariot_145 : decode cX5_chariot 145 = .ok (.iload_n 2, 1) := by decide +kernel
theorem dX5_chariot_146 : decode cX5_chariot 146 = .ok (.iastore, 1) := by decide +kernel
theorem dX5_chariot_147 : decode cX5_chariot 147 = .ok (.aload_n 0, 1) := by decide +kernel
theorem dX5_chariot_148 : decode cX5_chariot 148 = .ok (.getfield 63, 3) := by decide +kernel
theorem dX5_chariot_151 : decode cX5_chariot 151 = .ok (.aload_n 0, 1) := by decide +kernel
theorem dX5_chariot_152 : decode cX5_chariot 152 = .ok (.getfield 171, 3) := by decide +kernel
theorem dX5_chariot_155 : decode cX5_chariot 155 = .ok (.iconst 0, 1) := by decide +kernel
theorem dX5_chariot_156 : decode cX5_chariot 156 = .ok (.iastore, 1) := by decide +kernel
theorem dX5_chariot_157 : decode cX5_chariot 157 = .ok (.aload_n 0, 1) := by decide +kernel
theorem dX5_chariot_158 : decode cX5_chariot 158 = .ok (.dup, 1) := by decide +kernel
theorem dX5_chariot_159 : decode cX5_chariot 159 = .ok (.getfield 171, 3) := by decide +kernel
theorem dX5_chariot_162 : decode cX5_chariot 162 = .ok (.iconst 1, 1) := by decide +kernel
theorem dX5_chariot_163 : decode cX5_chariot 163 = .ok (.iadd, 1) := by decide +kernel
theorem dX5_chariot_164 : decode cX5_chariot 164 = .ok (.putfield 171, 3) := by decide +kernel
theorem dX5_chariot_167 : decode cX5_chariot 167 = .ok (.aload_n 0, 1) := by decide +kernel
theorem dX5_chariot_168 : decode cX5_chariot 168 = .ok (.getfield 171, 3) := by decide +kernel
theorem dX5_chariot_171 : decode cX5_chariot 171 = .ok (.iconst 1, 1) := by decide +kernel
theorem dX5_chariot_172 : decode cX5_chariot 172 = .ok (.isub, 1) := by decide +kernel
theorem dX5_chariot_173 : decode cX5_chariot 173 = .ok (.ireturn, 1) := by decide +kernel
set_option maxRecDepth 20000 in
theorem ggX5_drive_X5_in : GoodIn wsX5_drive wsX5_in := goodIn_r _ [9] (by decide +kernel) (by decide +kernel)
set_option maxRecDepth 20000 in
theorem gX5_drive_X5_in : GoodIn wsX5_drive (va_wsS RX5 96 yX5_in wsX5_in) := goodIn_app (goodIn_of _ (by decide +kernel)) ggX5_drive_X5_in
theorem dX5_drive_0 : decode cX5_drive 0 = .ok (.iload_n 1, 1) := by decide +kernel
theorem dX5_drive_1 : decode cX5_drive 1 = .ok (.iconst 0, 1) := by decide +kernel
theorem dX5_drive_2 : decode cX5_drive 2 = .ok (.aload_n 0, 1) := by decide +kernel
theorem dX5_drive_3 : decode cX5_drive 3 = .ok (.getfield 171, 3) := by decide +kernel
theorem dX5_drive_6 : decode cX5_drive 6 = .ok (.iconst 1, 1) := by decide +kernel
theorem dX5_drive_7 : decode cX5_drive 7 = .ok (.isub, 1) := by decide +kernel
theorem dX5_drive_8 : decode cX5_drive 8 = .ok (.invokestatic 96, 3) := by decide +kernel
theorem dX5_drive_11 : decode cX5_drive 11 = .ok (.ifCond .eq 39, 3) := by decide +kernel
theorem dX5_drive_14 : decode cX5_drive 14 = .ok (.iload_n 2, 1) := by decide +kernel
theorem dX5_drive_15 : decode cX5_drive 15 = .ok (.iconst 0, 1) := by decide +kernel
theorem dX5_drive_16 : decode cX5_drive 16 = .ok (.iconst 4, 1) := by decide +kernel
theorem dX5_drive_17 : decode cX5_drive 17 = .ok (.invokestatic 96, 3) := by decide +kernel
theorem dX5_drive_20 : decode cX5_drive 20 = .ok (.ifCond .eq 30, 3) := by decide +kernel
theorem dX5_drive_23 : decode cX5_drive 23 = .ok (.iload_n 3, 1) := by decide +kernel
theorem dX5_drive_24 : decode cX5_drive 24 = .ok (.iconst (-1), 1) := by decide +kernel
theorem dX5_drive_25 : decode cX5_drive 25 = .ok (.iconst 1, 1) := by decide +kernel
theorem dX5_drive_26 : decode cX5_drive 26 = .ok (.invokestatic 96, 3) := by decide +kernel
theorem dX5_drive_29 : decode cX5_drive 29 = .ok (.ifCond .eq 21, 3) := by decide +kernel
theorem dX5_drive_32 : decode cX5_drive 32 = .ok (.aload_n 0, 1) := by decide +kernel
theorem dX5_drive_33 : decode cX5_drive 33 = .ok (.getfield 63, 3) := by decide +kernel
theorem dX5_drive_36 : decode cX5_drive 36 = .ok (.iload_n 1, 1) := by decide +kernel
theorem dX5_drive_37 : decode cX5_drive 37 = .ok (.iaload, 1) := by decide +kernel
theorem dX5_drive_38 : decode cX5_drive 38 = .ok (.bipush 12, 2) := by decide +kernel
theorem dX5_drive_40 : decode cX5_drive 40 = .ok (.if_icmp .eq 10, 3) := by decide +kernel
theorem dX5_drive_43 : decode cX5_drive 43 = .ok (.aload_n 0, 1) := by decide +kernel
theorem dX5_drive_44 : decode cX5_drive 44 = .ok (.getfield 168, 3) := by decide +kernel
theorem dX5_drive_47 : decode cX5_drive 47 = .ok (.ifCond .le 5, 3) := by decide +kernel
theorem dX5_drive_50 : decode cX5_drive 50 = .ok (.iconst (-1), 1) := by decide +kernel
theorem dX5_drive_51 : decode cX5_drive 51 = .ok (.ireturn, 1) := by decide +kernel
theorem dX5_drive_52 : decode cX5_drive 52 = .ok (.aload_n 0, 1) := by decide +kernel
theorem dX5_drive_53 : decode cX5_drive 53 = .ok (.getfield 66, 3) := by decide +kernel
theorem dX5_drive_56 : decode cX5_drive 56 = .ok (.bipush 12, 2) := by decide +kernel
theorem dX5_drive_58 : decode cX5_drive 58 = .ok (.iload_n 1, 1) := by decide +kernel
theorem dX5_drive_59 : decode cX5_drive 59 = .ok (.imul, 1) := by decide +kernel
theorem dX5_drive_60 : decode cX5_drive 60 = .ok (.aload_n 0, 1) := by decide +kernel
theorem dX5_drive_61 : decode cX5_drive 61 = .ok (.getfield 63, 3) := by decide +kernel
theorem dX5_drive_64 : decode cX5_drive 64 = .ok (.iload_n 1, 1) := by decide +kernel
theorem dX5_drive_65 : decode cX5_drive 65 = .ok (.iaload, 1) := by decide +kernel
theorem dX5_drive_66 : decode cX5_drive 66 = .ok (.iadd, 1) := by decide +kernel
theorem dX5_drive_67 : decode cX5_drive 67 = .ok (.iload_n 2, 1) := by decide +kernel
theorem dX5_drive_68 : decode cX5_drive 68 = .ok (.iastore, 1) := by decide +kernel
theorem dX5_drive_69 : decode cX5_drive 69 = .ok (.aload_n 0, 1) := by decide +kernel
theorem dX5_drive_70 : decode cX5_drive 70 = .ok (.getfield 69, 3) := by decide +kernel
theorem dX5_drive_73 : decode cX5_drive 73 = .ok (.bipush 12, 2) := by decide +kernel
theorem dX5_drive_75 : decode cX5_drive 75 = .ok (.iload_n 1, 1) := by decide +kernel
theorem dX5_drive_76 : decode cX5_drive 76 = .ok (.imul, 1) := by decide +kernel
theorem dX5_drive_77 : decode cX5_drive 77 = .ok (.aload_n 0, 1) := by decide +kernel
theorem dX5_drive_78 : decode cX5_drive 78 = .ok (.getfield 63, 3) := by decide +kernel
theorem dX5_drive_81 : decode cX5_drive 81 = .ok (.iload_n 1, 1) := by decide +kernel
theorem dX5_drive_82 : decode cX5_drive 82 = .ok (.iaload, 1) := by decide +kernel
theorem dX5_drive_83 : decode cX5_drive 83 = .ok (.iadd, 1) := by decide +kernel
theorem dX5_drive_84 : decode cX5_drive 84 = .ok (.iload_n 3, 1) := by decide +kernel
theorem dX5_drive_85 : decode cX5_drive 85 = .ok (.iastore, 1) := by decide +kernel
theorem dX5_drive_86 : decode cX5_drive 86 = .ok (.aload_n 0, 1) := by decide +kernel
theorem dX5_drive_87 : decode cX5_drive 87 = .ok (.getfield 63, 3) := by decide +kernel
theorem dX5_drive_90 : decode cX5_drive 90 = .ok (.iload_n 1, 1) := by decide +kernel
theorem dX5_drive_91 : decode cX5_drive 91 = .ok (.dup2, 1) := by decide +kernel
theorem dX5_drive_92 : decode cX5_drive 92 = .ok (.iaload, 1) := by decide +kernel
theorem dX5_drive_93 : decode cX5_drive 93 = .ok (.iconst 1, 1) := by decide +kernel
theorem dX5_drive_94 : decode cX5_drive 94 = .ok (.iadd, 1) := by decide +kernel
theorem dX5_drive_95 : decode cX5_drive 95 = .ok (.iastore, 1) := by decide +kernel
theorem dX5_drive_96 : decode cX5_drive 96 = .ok (.aload_n 0, 1) := by decide +kernel
theorem dX5_drive_97 : decode cX5_drive 97 = .ok (.getfield 63, 3) := by decide +kernel
theorem dX5_drive_100 : decode cX5_drive 100 = .ok (.iload_n 1, 1) := by decide +kernel
theorem dX5_drive_101 : decode cX5_drive 101 = .ok (.iaload, 1) := by decide +kernel
theorem dX5_drive_102 : decode cX5_drive 102 = .ok (.ireturn, 1) := by decide +kernel
theorem dX5_crash_0 : decode cX5_crash 0 = .ok (.iconst 0, 1) := by decide +kernel
theorem dX5_crash_1 : decode cX5_crash 1 = .ok (.istore_n 1, 1) := by decide +kernel
theorem dX5_crash_2 : decode cX5_crash 2 = .ok (.iload_n 1, 1) := by decide +kernel
theorem dX5_crash_3 : decode cX5_crash 3 = .ok (.aload_n 0, 1) := by decide +kernel
theorem dX5_crash_4 : decode cX5_crash 4 = .ok (.getfield 171, 3) := by decide +kernel
theorem dX5_crash_7 : decode cX5_crash 7 = .ok (.if_icmp .ge 116, 3) := by decide +kernel
theorem dX5_crash_10 : decode cX5_crash 10 = .ok (.aload_n 0, 1) := by decide +kernel
theorem dX5_crash_11 : decode cX5_crash 11 = .ok (.getfield 42, 3) := by decide +kernel
theorem dX5_crash_14 : decode cX5_crash 14 = .ok (.iload_n 1, 1) := by decide +kernel
theorem dX5_crash_15 : decode cX5_crash 15 = .ok (.iaload, 1) := by decide +kernel
theorem dX5_crash_16 : decode cX5_crash 16 = .ok (.iconst 1, 1) := by decide +kernel
theorem dX5_crash_17 : decode cX5_crash 17 = .ok (.if_icmp .eq 6, 3) := by decide +kernel
theorem dX5_crash_20 : decode cX5_crash 20 = .ok (.goto 97, 3) := by decide +kernel
theorem dX5_crash_23 : decode cX5_crash 23 = .ok (.iconst 0, 1) := by decide +kernel
theorem dX5_crash_24 : decode cX5_crash 24 = .ok (.istore_n 2, 1) := by decide +kernel
theorem dX5_crash_25 : decode cX5_crash 25 = .ok (.iconst 0, 1) := by decide +kernel
theorem dX5_crash_26 : decode cX5_crash 26 = .ok (.istore_n 3, 1) := by decide +kernel
theorem dX5_crash_27 : decode cX5_crash 27 = .ok (.iload_n 3, 1) := by decide +kernel
theorem dX5_crash_28 : decode cX5_crash 28 = .ok (.aload_n 0, 1) := by decide +kernel
theorem dX5_crash_29 : decode cX5_crash 29 = .ok (.getfield 171, 3) := by decide +kernel
theorem dX5_crash_32 : decode cX5_crash 32 = .ok (.if_icmp .ge 74, 3) := by decide +kernel
theorem dX5_crash_35 : decode cX5_crash 35 = .ok (.iload_n 2, 1) := by decide +kernel
theorem dX5_crash_36 : decode cX5_crash 36 = .ok (.ifCond .ne 58, 3) := by decide +kernel
theorem dX5_crash_39 : decode cX5_crash 39 = .ok (.iload_n 3, 1) := by decide +kernel
theorem dX5_crash_40 : decode cX5_crash 40 = .ok (.iload_n 1, 1) := by decide +kernel
theorem dX5_crash_41 : decode cX5_crash 41 = .ok (.if_icmp .eq 57, 3) := by decide +kernel
theorem dX5_crash_44 : decode cX5_crash 44 = .ok (.aload_n 0, 1) := by decide +kernel
theorem dX5_crash_45 : decode cX5_crash 45 = .ok (.getfield 42, 3) := by decide +kernel
theorem dX5_crash_48 : decode cX5_crash 48 = .ok (.iload_n 3, 1) := by decide +kernel
theorem dX5_crash_49 : decode cX5_crash 49 = .ok (.iaload, 1) := by decide +kernel
theorem dX5_crash_50 : decode cX5_crash 50 = .ok (.iconst 1, 1) := by decide +kernel
theorem dX5_crash_51 : decode cX5_crash 51 = .ok (.if_icmp .eq 13, 3) := by decide +kernel
theorem dX5_crash_54 : decode cX5_crash 54 = .ok (.aload_n 0, 1) := by decide +kernel
theorem dX5_crash_55 : decode cX5_crash 55 = .ok (.getfield 42, 3) := by decide +kernel
theorem dX5_crash_58 : decode cX5_crash 58 = .ok (.iload_n 3, 1) := by decide +kernel
theorem dX5_crash_59 : decode cX5_crash 59 = .ok (.iaload, 1) := by decide +kernel
theorem dX5_crash_60 : decode cX5_crash 60 = .ok (.iconst 4, 1) := by decide +kernel
theorem dX5_crash_61 : decode cX5_crash 61 = .ok (.if_icmp .ne 37, 3) := by decide +kernel
theorem dX5_crash_64 : decode cX5_crash 64 = .ok (.aload_n 0, 1) := by decide +kernel
theorem dX5_crash_65 : decode cX5_crash 65 = .ok (.getfield 45, 3) := by decide +kernel
theorem dX5_crash_68 : decode cX5_crash 68 = .ok (.iload_n 3, 1) := by decide +kernel
theorem dX5_crash_69 : decode cX5_crash 69 = .ok (.iaload, 1) := by decide +kernel
theorem dX5_crash_70 : decode cX5_crash 70 = .ok (.aload_n 0, 1) := by decide +kernel
theorem dX5_crash_71 : decode cX5_crash 71 = .ok (.getfield 45, 3) := by decide +kernel
theorem dX5_crash_74 : decode cX5_crash 74 = .ok (.iload_n 1, 1) := by decide +kernel
theorem dX5_crash_75 : decode cX5_crash 75 = .ok (.iaload, 1) := by decide +kernel
theorem dX5_crash_76 : decode cX5_crash 76 = .ok (.if_icmp .ne 22, 3) := by decide +kernel
theorem dX5_crash_79 : decode cX5_crash 79 = .ok (.aload_n 0, 1) := by decide +kernel
theorem dX5_crash_80 : decode cX5_crash 80 = .ok (.getfield 48, 3) := by decide +kernel
theorem dX5_crash_83 : decode cX5_crash 83 = .ok (.iload_n 3, 1) := by decide +kernel
theorem dX5_crash_84 : decode cX5_crash 84 = .ok (.iaload, 1) := by decide +kernel
theorem dX5_crash_85 : decode cX5_crash 85 = .ok (.aload_n 0, 1) := by decide +kernel
theorem dX5_crash_86 : decode cX5_crash 86 = .ok (.getfield 48, 3) := by decide +kernel
theorem dX5_crash_89 : decode cX5_crash 89 = .ok (.iload_n 1, 1) := by decide +kernel
theorem dX5_crash_90 : decode cX5_crash 90 = .ok (.iaload, 1) := by decide +kernel
theorem dX5_crash_91 : decode cX5_crash 91 = .ok (.if_icmp .ne 7, 3) := by decide +kernel
theorem dX5_crash_94 : decode cX5_crash 94 = .ok (.iconst 1, 1) := by decide +kernel
theorem dX5_crash_95 : decode cX5_crash 95 = .ok (.goto 4, 3) := by decide +kernel
theorem dX5_crash_98 : decode cX5_crash 98 = .ok (.iconst 0, 1) := by decide +kernel
theorem dX5_crash_99 : decode cX5_crash 99 = .ok (.istore_n 2, 1) := by decide +kernel
theorem dX5_crash_100 : decode cX5_crash 100 = .ok (.iinc 3 1, 3) := by decide +kernel
theorem dX5_crash_103 : decode cX5_crash 103 = .ok (.goto (-76), 3) := by decide +kernel
theorem dX5_crash_106 : decode cX5_crash 106 = .ok (.iload_n 2, 1) := by decide +kernel
theorem dX5_crash_107 : decode cX5_crash 107 = .ok (.ifCond .eq 10, 3) := by decide +kernel
theorem dX5_crash_110 : decode cX5_crash 110 = .ok (.aload_n 0, 1) := by decide +kernel
theorem dX5_crash_111 : decode cX5_crash 111 = .ok (.getfield 42, 3) := by decide +kernel
theorem dX5_crash_114 : decode cX5_crash 114 = .ok (.iload_n 1, 1) := by decide +kernel
theorem dX5_crash_115 : decode cX5_crash 115 = .ok (.iconst 4, 1) := by decide +kernel
theorem dX5_crash_116 : decode cX5_crash 116 = .ok (.iastore, 1) := by decide +kernel
theorem dX5_crash_117 : decode cX5_crash 117 = .ok (.iinc 1 1, 3) := by decide +kernel
theorem dX5_crash_120 : decode cX5_crash 120 = .ok (.goto (-118), 3) := by decide +kernel
theorem dX5_crash_123 : decode cX5_crash 123 = .ok (.iconst 0, 1) := by decide +kernel
theorem dX5_crash_124 : decode cX5_crash 124 = .ok (.istore_n 1, 1) := by decide +kernel
theorem dX5_crash_125 : decode cX5_crash 125 = .ok (.iload_n 1, 1) := by decide +kernel
theorem dX5_crash_126 : decode cX5_crash 126 = .ok (.aload_n 0, 1) := by decide +kernel
theorem dX5_crash_127 : decode cX5_crash 127 = .ok (.getfield 171, 3) := by decide +kernel
theorem dX5_crash_130 : decode cX5_crash 130 = .ok (.if_icmp .ge 39, 3) := by decide +kernel
theorem dX5_crash_133 : decode cX5_crash 133 = .ok (.aload_n 0, 1) := by decide +kernel
theorem dX5_crash_134 : decode cX5_crash 134 = .ok (.getfield 42, 3) := by decide +kernel
theorem dX5_crash_137 : decode cX5_crash 137 = .ok (.iload_n 1, 1) := by decide +kernel
theorem dX5_crash_138 : decode cX5_crash 138 = .ok (.iaload, 1) := by decide +kernel
theorem dX5_crash_139 : decode cX5_crash 139 = .ok (.iconst 4, 1) := by decide +kernel
theorem dX5_crash_140 : decode cX5_crash 140 = .ok (.if_icmp .eq 6, 3) := by decide +kernel
theorem dX5_crash_143 : decode cX5_crash 143 = .ok (.goto 20, 3) := by decide +kernel
theorem dX5_crash_146 : decode cX5_crash 146 = .ok (.aload_n 0, 1) := by decide +kernel
theorem dX5_crash_147 : decode cX5_crash 147 = .ok (.getfield 42, 3) := by decide +kernel
theorem dX5_crash_150 : decode cX5_crash 150 = .ok (.iload_n 1, 1) := by decide +kernel
theorem dX5_crash_151 : decode cX5_crash 151 = .ok (.iconst 3, 1) := by decide +kernel
theorem dX5_crash_152 : decode cX5_crash 152 = .ok (.iastore, 1) := by decide +kernel
theorem dX5_crash_153 : decode cX5_crash 153 = .ok (.aload_n 0, 1) := by decide +kernel
theorem dX5_crash_154 : decode cX5_crash 154 = .ok (.getfield 54, 3) := by decide +kernel
theorem dX5_crash_157 : decode cX5_crash 157 = .ok (.iload_n 1, 1) := by decide +kernel
theorem dX5_crash_158 : decode cX5_crash 158 = .ok (.aload_n 0, 1) := by decide +kernel
theorem dX5_crash_159 : decode cX5_crash 159 = .ok (.getfield 168, 3) := by decide +kernel
theorem dX5_crash_162 : decode cX5_crash 162 = .ok (.iastore, 1) := by decide +kernel
theorem dX5_crash_163 : decode cX5_crash 163 = .ok (.iinc 1 1, 3) := by decide +kernel
theorem dX5_crash_166 : decode cX5_crash 166 = .ok (.goto (-41), 3) := by decide +kernel
theorem dX5_crash_169 : decode cX5_crash 169 = .ok (.return_, 1) := by decide +kernel
theorem dX5_actOf_0 : decode cX5_actOf 0 = .ok (.aload_n 0, 1) := by decide +kernel
theorem dX5_actOf_1 : decode cX5_actOf 1 = .ok (.getfield 63, 3) := by decide +kernel
theorem dX5_actOf_4 : decode cX5_actOf 4 = .ok (.iload_n 1, 1) := by decide +kernel
theorem dX5_actOf_5 : decode cX5_actOf 5 = .ok (.iaload, 1) := by decide +kernel
theorem dX5_actOf_6 : decode cX5_actOf 6 = .ok (.ifCond .ne 7, 3) := by decide +kernel
theorem dX5_actOf_9 : decode cX5_actOf 9 = .ok (.iconst (-1), 1) := by decide +kernel
theorem dX5_actOf_10 : decode cX5_actOf 10 = .ok (.goto 28, 3) := by decide +kernel
theorem dX5_actOf_13 : decode cX5_actOf 13 = .ok (.bipush 12, 2) := by decide +kernel
theorem dX5_actOf_15 : decode cX5_actOf 15 = .ok (.iload_n 1, 1) := by decide +kernel
theorem dX5_actOf_16 : decode cX5_actOf 16 = .ok (.imul, 1) := by decide +kernel
theorem dX5_actOf_17 : decode cX5_actOf 17 = .ok (.aload_n 0, 1) := by decide +kernel
theorem dX5_actOf_18 : decode cX5_actOf 18 = .ok (.getfield 168, 3) := by decide +kernel
theorem dX5_actOf_21 : decode cX5_actOf 21 = .ok (.iconst 1, 1) := by decide +kernel
theorem dX5_actOf_22 : decode cX5_actOf 22 = .ok (.isub, 1) := by decide +kernel
theorem dX5_actOf_23 : decode cX5_actOf 23 = .ok (.aload_n 0, 1) := by decide +kernel
theorem dX5_actOf_24 : decode cX5_actOf 24 = .ok (.getfield 60, 3) := by decide +kernel
theorem dX5_actOf_27 : decode cX5_actOf 27 = .ok (.iload_n 1, 1) := by decide +kernel
theorem dX5_actOf_28 : decode cX5_actOf 28 = .ok (.iaload, 1) := by decide +kernel
theorem dX5_actOf_29 : decode cX5_actOf 29 = .ok (.isub, 1) := by decide +kernel
theorem dX5_actOf_30 : decode cX5_actOf 30 = .ok (.aload_n 0, 1) := by decide +kernel
theorem dX5_actOf_31 : decode cX5_actOf 31 = .ok (.getfield 63, 3) := by decide +kernel
theorem dX5_actOf_34 : decode cX5_actOf 34 = .ok (.iload_n 1, 1) := by decide +kernel
theorem dX5_actOf_35 : decode cX5_actOf 35 = .ok (.iaload, 1) := by decide +kernel
theorem dX5_actOf_36 : decode cX5_actOf 36 = .ok (.irem, 1) := by decide +kernel
theorem dX5_actOf_37 : decode cX5_actOf 37 = .ok (.iadd, 1) := by decide +kernel
theorem dX5_actOf_38 : decode cX5_actOf 38 = .ok (.ireturn, 1) := by decide +kernel
set_option maxRecDepth 20000 in
theorem ggX5_step_X5_actOf : GoodIn wsX5_step wsX5_actOf := goodIn_r _ [18, 19, 11, 20, 25, 26, 27, 28, 29, 30, 31, 32, 33, 34, 35, 36, 37, 38, 39, 40, 41, 42, 43, 44, 45, 46, 47, 48, 49, 50, 51, 52, 53, 54, 55, 56, 57, 58, 59, 60, 61, 62, 63, 64, 65, 66, 67, 68] (by decide +kernel) (by decide +kernel)
set_option maxRecDepth 20000 in
theorem gX5_step_X5_actOf : GoodIn wsX5_step (wsV RX5 177 RX5 yX5_actOf wsX5_actOf) := goodIn_app (goodIn_of _ (by decide +kernel)) ggX5_step_X5_actOf
set_option maxRecDepth 20000 in
theorem ggX5_step_X5_crash : GoodIn wsX5_step wsX5_crash := goodIn_r _ [24, 1, 2, 8, 4, 10, 11, 25, 26, 27, 28, 29, 30, 31, 32, 33, 34, 35, 36, 37, 38, 39, 40, 41, 42, 43, 44, 45, 46, 47, 48, 49, 50, 51, 52, 53, 54, 55, 56, 57, 58, 59, 60, 61, 62, 63, 64, 65, 66, 67, 68] (by decide +kernel) (by decide +kernel)
set_option maxRecDepth 20000 in
theorem gX5_step_X5_crash : GoodIn wsX5_step (wsV RX5 180 RX5 yX5_crash wsX5_crash) := goodIn_app (goodIn_of _ (by decide +kernel)) ggX5_step_X5_crash
theorem dX5_step_0 : decode cX5_step 0 = .ok (.iconst 0, 1) := by decide +kernel
theorem dX5_step_1 : decode cX5_step 1 = .ok (.istore_n 2, 1) := by decide +kernel
theorem dX5_step_2 : decode cX5_step 2 = .ok (.iload_n 2, 1) := by decide +kernel
theorem dX5_step_3 : decode cX5_step 3 = .ok (.aload_n 0, 1) := by decide +kernel
theorem dX5_step_4 : decode cX5_step 4 = .ok (.getfield 171, 3) := by decide +kernel
theorem dX5_step_7 : decode cX5_step 7 = .ok (.if_icmp .ge 88, 3) := by decide +kernel
theorem dX5_step_10 : decode cX5_step 10 = .ok (.aload_n 0, 1) := by decide +kernel
theorem dX5_step_11 : decode cX5_step 11 = .ok (.getfield 42, 3) := by decide +kernel
theorem dX5_step_14 : decode cX5_step 14 = .ok (.iload_n 2, 1) := by decide +kernel
theorem dX5_step_15 : decode cX5_step 15 = .ok (.iaload, 1) := by decide +kernel
theorem dX5_step_16 : decode cX5_step 16 = .ok (.iconst 1, 1) := by decide +kernel
theorem dX5_step_17 : decode cX5_step 17 = .ok (.if_icmp .ne 72, 3) := by decide +kernel
theorem dX5_step_20 : decode cX5_step 20 = .ok (.aload_n 0, 1) := by decide +kernel
theorem dX5_step_21 : decode cX5_step 21 = .ok (.iload_n 2, 1) := by decide +kernel
theorem dX5_step_22 : decode cX5_step 22 = .ok (.invokevirtual 177, 3) := by decide +kernel
theorem dX5_step_25 : decode cX5_step 25 = .ok (.iconst (-1), 1) := by decide +kernel
theorem dX5_step_26 : decode cX5_step 26 = .ok (.if_icmp .eq 63, 3) := by decide +kernel
theorem dX5_step_29 : decode cX5_step 29 = .ok (.aload_n 0, 1) := by decide +kernel
theorem dX5_step_30 : decode cX5_step 30 = .ok (.getfield 66, 3) := by decide +kernel
theorem dX5_step_33 : decode cX5_step 33 = .ok (.aload_n 0, 1) := by decide +kernel
theorem dX5_step_34 : decode cX5_step 34 = .ok (.iload_n 2, 1) := by decide +kernel
theorem dX5_step_35 : decode cX5_step 35 = .ok (.invokevirtual 177, 3) := by decide +kernel
theorem dX5_step_38 : decode cX5_step 38 = .ok (.iaload, 1) := by decide +kernel
theorem dX5_step_39 : decode cX5_step 39 = .ok (.iload_n 1, 1) := by decide +kernel
theorem dX5_step_40 : decode cX5_step 40 = .ok (.if_icmp .ge 6, 3) := by decide +kernel
theorem dX5_step_43 : decode cX5_step 43 = .ok (.goto 46, 3) := by decide +kernel
theorem dX5_step_46 : decode cX5_step 46 = .ok (.aload_n 0, 1) := by decide +kernel
theorem dX5_step_47 : decode cX5_step 47 = .ok (.getfield 48, 3) := by decide +kernel
theorem dX5_step_50 : decode cX5_step 50 = .ok (.iload_n 2, 1) := by decide +kernel
theorem dX5_step_51 : decode cX5_step 51 = .ok (.dup2, 1) := by decide +kernel
theorem dX5_step_52 : decode cX5_step 52 = .ok (.iaload, 1) := by decide +kernel
theorem dX5_step_53 : decode cX5_step 53 = .ok (.iconst 1, 1) := by decide +kernel
theorem dX5_step_54 : decode cX5_step 54 = .ok (.iadd, 1) := by decide +kernel
theorem dX5_step_55 : decode cX5_step 55 = .ok (.iastore, 1) := by decide +kernel
theorem dX5_step_56 : decode cX5_step 56 = .ok (.aload_n 0, 1) := by decide +kernel
theorem dX5_step_57 : decode cX5_step 57 = .ok (.getfield 48, 3) := by decide +kernel
theorem dX5_step_60 : decode cX5_step 60 = .ok (.iload_n 2, 1) := by decide +kernel
theorem dX5_step_61 : decode cX5_step 61 = .ok (.iaload, 1) := by decide +kernel
theorem dX5_step_62 : decode cX5_step 62 = .ok (.aload_n 0, 1) := by decide +kernel
theorem dX5_step_63 : decode cX5_step 63 = .ok (.getfield 162, 3) := by decide +kernel
theorem dX5_step_66 : decode cX5_step 66 = .ok (.if_icmp .ge 6, 3) := by decide +kernel
theorem dX5_step_69 : decode cX5_step 69 = .ok (.goto 20, 3) := by decide +kernel
theorem dX5_step_72 : decode cX5_step 72 = .ok (.aload_n 0, 1) := by decide +kernel
theorem dX5_step_73 : decode cX5_step 73 = .ok (.getfield 48, 3) := by decide +kernel
theorem dX5_step_76 : decode cX5_step 76 = .ok (.iload_n 2, 1) := by decide +kernel
theorem dX5_step_77 : decode cX5_step 77 = .ok (.iconst 0, 1) := by decide +kernel
theorem dX5_step_78 : decode cX5_step 78 = .ok (.iastore, 1) := by decide +kernel
theorem dX5_step_79 : decode cX5_step 79 = .ok (.aload_n 0, 1) := by decide +kernel
theorem dX5_step_80 : decode cX5_step 80 = .ok (.getfield 51, 3) := by decide +kernel
theorem dX5_step_83 : decode cX5_step 83 = .ok (.iload_n 2, 1) := by decide +kernel
theorem dX5_step_84 : decode cX5_step 84 = .ok (.dup2, 1) := by decide +kernel
theorem dX5_step_85 : decode cX5_step 85 = .ok (.iaload, 1) := by decide +kernel
theorem dX5_step_86 : decode cX5_step 86 = .ok (.iconst 1, 1) := by decide +kernel
theorem dX5_step_87 : decode cX5_step 87 = .ok (.iadd, 1) := by decide +kernel
theorem dX5_step_88 : decode cX5_step 88 = .ok (.iastore, 1) := by decide +kernel
theorem dX5_step_89 : decode cX5_step 89 = .ok (.iinc 2 1, 3) := by decide +kernel
theorem dX5_step_92 : decode cX5_step 92 = .ok (.goto (-90), 3) := by decide +kernel
theorem dX5_step_95 : decode cX5_step 95 = .ok (.iconst 0, 1) := by decide +kernel
theorem dX5_step_96 : decode cX5_step 96 = .ok (.istore_n 2, 1) := by decide +kernel
theorem dX5_step_97 : decode cX5_step 97 = .ok (.iload_n 2, 1) := by decide +kernel
theorem dX5_step_98 : decode cX5_step 98 = .ok (.aload_n 0, 1) := by decide +kernel
theorem dX5_step_99 : decode cX5_step 99 = .ok (.getfield 159, 3) := by decide +kernel
theorem dX5_step_102 : decode cX5_step 102 = .ok (.if_icmp .ge 98, 3) := by decide +kernel
theorem dX5_step_105 : decode cX5_step 105 = .ok (.iconst 0, 1) := by decide +kernel
theorem dX5_step_106 : decode cX5_step 106 = .ok (.istore_n 3, 1) := by decide +kernel
theorem dX5_step_107 : decode cX5_step 107 = .ok (.iload_n 3, 1) := by decide +kernel
theorem dX5_step_108 : decode cX5_step 108 = .ok (.aload_n 0, 1) := by decide +kernel
theorem dX5_step_109 : decode cX5_step 109 = .ok (.getfield 171, 3) := by decide +kernel
theorem dX5_step_112 : decode cX5_step 112 = .ok (.if_icmp .ge 82, 3) := by decide +kernel
theorem dX5_step_115 : decode cX5_step 115 = .ok (.aload_n 0, 1) := by decide +kernel
theorem dX5_step_116 : decode cX5_step 116 = .ok (.getfield 42, 3) := by decide +kernel
theorem dX5_step_119 : decode cX5_step 119 = .ok (.iload_n 3, 1) := by decide +kernel
theorem dX5_step_120 : decode cX5_step 120 = .ok (.iaload, 1) := by decide +kernel
theorem dX5_step_121 : decode cX5_step 121 = .ok (.iconst 1, 1) := by decide +kernel
theorem dX5_step_122 : decode cX5_step 122 = .ok (.if_icmp .ne 66, 3) := by decide +kernel
theorem dX5_step_125 : decode cX5_step 125 = .ok (.aload_n 0, 1) := by decide +kernel
theorem dX5_step_126 : decode cX5_step 126 = .ok (.getfield 45, 3) := by decide +kernel
theorem dX5_step_129 : decode cX5_step 129 = .ok (.iload_n 3, 1) := by decide +kernel
theorem dX5_step_130 : decode cX5_step 130 = .ok (.iaload, 1) := by decide +kernel
theorem dX5_step_131 : decode cX5_step 131 = .ok (.iload_n 2, 1) := by decide +kernel
theorem dX5_step_132 : decode cX5_step 132 = .ok (.if_icmp .ne 56, 3) := by decide +kernel
theorem dX5_step_135 : decode cX5_step 135 = .ok (.aload_n 0, 1) := by decide +kernel
theorem dX5_step_136 : decode cX5_step 136 = .ok (.getfield 51, 3) := by decide +kernel
theorem dX5_step_139 : decode cX5_step 139 = .ok (.iload_n 3, 1) := by decide +kernel
theorem dX5_step_140 : decode cX5_step 140 = .ok (.iaload, 1) := by decide +kernel
theorem dX5_step_141 : decode cX5_step 141 = .ok (.aload_n 0, 1) := by decide +kernel
theorem dX5_step_142 : decode cX5_step 142 = .ok (.getfield 165, 3) := by decide +kernel
theorem dX5_step_145 : decode cX5_step 145 = .ok (.if_icmp .ge 6, 3) := by decide +kernel
theorem dX5_step_148 : decode cX5_step 148 = .ok (.goto 40, 3) := by decide +kernel
theorem dX5_step_151 : decode cX5_step 151 = .ok (.aload_n 0, 1) := by decide +kernel
theorem dX5_step_152 : decode cX5_step 152 = .ok (.getfield 42, 3) := by decide +kernel
theorem dX5_step_155 : decode cX5_step 155 = .ok (.iload_n 3, 1) := by decide +kernel
theorem dX5_step_156 : decode cX5_step 156 = .ok (.iconst 2, 1) := by decide +kernel
theorem dX5_step_157 : decode cX5_step 157 = .ok (.iastore, 1) := by decide +kernel
theorem dX5_step_158 : decode cX5_step 158 = .ok (.aload_n 0, 1) := by decide +kernel
theorem dX5_step_159 : decode cX5_step 159 = .ok (.getfield 54, 3) := by decide +kernel
theorem dX5_step_162 : decode cX5_step 162 = .ok (.iload_n 3, 1) := by decide +kernel
theorem dX5_step_163 : decode cX5_step 163 = .ok (.aload_n 0, 1) := by decide +kernel
theorem dX5_step_164 : decode cX5_step 164 = .ok (.getfield 168, 3) := by decide +kernel
theorem dX5_step_167 : decode cX5_step 167 = .ok (.iastore, 1) := by decide +kernel
theorem dX5_step_168 : decode cX5_step 168 = .ok (.aload_n 0, 1) := by decide +kernel
theorem dX5_step_169 : decode cX5_step 169 = .ok (.dup, 1) := by decide +kernel
theorem dX5_step_170 : decode cX5_step 170 = .ok (.getfield 174, 3) := by decide +kernel
theorem dX5_step_173 : decode cX5_step 173 = .ok (.iconst 1, 1) := by decide +kernel
theorem dX5_step_174 : decode cX5_step 174 = .ok (.iadd, 1) := by decide +kernel
theorem dX5_step_175 : decode cX5_step 175 = .ok (.putfield 174, 3) := by decide +kernel
theorem dX5_step_178 : decode cX5_step 178 = .ok (.aload_n 0, 1) := by decide +kernel
theorem dX5_step_179 : decode cX5_step 179 = .ok (.getfield 57, 3) := by decide +kernel
theorem dX5_step_182 : decode cX5_step 182 = .ok (.iload_n 3, 1) := by decide +kernel
theorem dX5_step_183 : decode cX5_step 183 = .ok (.aload_n 0, 1) := by decide +kernel
theorem dX5_step_184 : decode cX5_step 184 = .ok (.getfield 174, 3) := by decide +kernel
theorem dX5_step_187 : decode cX5_step 187 = .ok (.iastore, 1) := by decide +kernel
theorem dX5_step_188 : decode cX5_step 188 = .ok (.iinc 3 1, 3) := by decide +kernel
theorem dX5_step_191 : decode cX5_step 191 = .ok (.goto (-84), 3) := by decide +kernel
theorem dX5_step_194 : decode cX5_step 194 = .ok (.iinc 2 1, 3) := by decide +kernel
theorem dX5_step_197 : decode cX5_step 197 = .ok (.goto (-100), 3) := by decide +kernel
theorem dX5_step_200 : decode cX5_step 200 = .ok (.aload_n 0, 1) := by decide +kernel
theorem dX5_step_201 : decode cX5_step 201 = .ok (.invokevirtual 180, 3) := by decide +kernel
theorem dX5_step_204 : decode cX5_step 204 = .ok (.return_, 1) := by decide +kernel
set_option maxRecDepth 20000 in
theorem ggX5_run_X5_in : GoodIn wsX5_run wsX5_in := goodIn_r _ [11] (by decide +kernel) (by decide +kernel)
set_option maxRecDepth 20000 in
theorem gX5_run_X5_in : GoodIn wsX5_run (va_wsS RX5 96 yX5_in wsX5_in) := goodIn_app (goodIn_of _ (by decide +kernel)) ggX5_run_X5_in
set_option maxRecDepth 20000 in
theorem ggX5_run_X5_crash : GoodIn wsX5_run wsX5_crash := goodIn_r _ [15, 3, 4, 6, 16, 17, 2, 33, 34, 35, 36, 37, 38, 39, 40, 41, 42, 43, 44, 45, 46, 47, 48, 49, 50, 51, 52, 53, 54, 55, 56, 57, 58, 59, 60, 61, 62, 63, 64, 65, 66, 67, 68, 69, 70, 71, 72, 73, 74, 75, 76] (by decide +kernel) (by decide +kernel)
set_option maxRecDepth 20000 in
theorem gX5_run_X5_crash : GoodIn wsX5_run (wsV RX5 180 RX5 yX5_crash wsX5_crash) := goodIn_app (goodIn_of _ (by decide +kernel)) ggX5_run_X5_crash
set_option maxRecDepth 20000 in
theorem ggX5_run_X5_step : GoodIn wsX5_run wsX5_step := goodIn_r _ [21, 3, 4, 22, 16, 23, 24, 1, 6, 25, 17, 2, 26, 27, 28, 29, 30, 10, 31, 32, 5, 12, 13, 14, 15, 33, 34, 35, 36, 37, 38, 39, 40, 41, 42, 43, 44, 45, 46, 47, 48, 49, 50, 51, 52, 53, 54, 55, 56, 57, 58, 59, 60, 61, 62, 63, 64, 65, 66, 67, 68, 69, 70, 71, 72, 73, 74, 75, 76] (by decide +kernel) (by decide +kernel)
set_option maxRecDepth 20000 in
theorem gX5_run_X5_step : GoodIn wsX5_run (wsV RX5 183 RX5 yX5_step wsX5_step) := goodIn_app (goodIn_of _ (by decide +kernel)) ggX5_run_X5_step
set_option maxRecDepth 20000 in
theorem ggX5_run_X5_actOf : GoodIn wsX5_run wsX5_actOf := goodIn_r _ [31, 32, 2, 5, 33, 34, 35, 36, 37, 38, 39, 40, 41, 42, 43, 44, 45, 46, 47, 48, 49, 50, 51, 52, 53, 54, 55, 56, 57, 58, 59, 60, 61, 62, 63, 64, 65, 66, 67, 68, 69, 70, 71, 72, 73, 74, 75, 76] (by decide +kernel) (by decide +kernel)
set_option maxRecDepth 20000 in
theorem gX5_run_X5_actOf : GoodIn wsX5_run (wsV RX5 177 RX5 yX5_actOf wsX5_actOf) := goodIn_app (goodIn_of _ (by decide +kernel)) ggX5_run_X5_actOf
theorem dX5_run_0 : decode cX5_run 0 = .ok (.aload_n 0, 1) := by decide +kernel
theorem dX5_run_1 : decode cX5_run 1 = .ok (.getfield 159, 3) := by decide +kernel
theorem dX5_run_4 : decode cX5_run 4 = .ok (.ifCond .eq 14, 3) := by decide +kernel
theorem dX5_run_7 : decode cX5_run 7 = .ok (.iload_n 1, 1) := by decide +kernel
theorem dX5_run_8 : decode cX5_run 8 = .ok (.iconst 0, 1) := by decide +kernel
theorem dX5_run_9 : decode cX5_run 9 = .ok (.sipush 200, 3) := by decide +kernel
theorem dX5_run_12 : decode cX5_run 12 = .ok (.invokestatic 96, 3) := by decide +kernel
theorem dX5_run_15 : decode cX5_run 15 = .ok (.ifCond .ne 5, 3) := by decide +kernel
theorem dX5_run_18 : decode cX5_run 18 = .ok (.iconst (-1), 1) := by decide +kernel
theorem dX5_run_19 : decode cX5_run 19 = .ok (.ireturn, 1) := by decide +kernel
theorem dX5_run_20 : decode cX5_run 20 = .ok (.iconst 0, 1) := by decide +kernel
theorem dX5_run_21 : decode cX5_run 21 = .ok (.istore_n 2, 1) := by decide +kernel
theorem dX5_run_22 : decode cX5_run 22 = .ok (.iload_n 2, 1) := by decide +kernel
theorem dX5_run_23 : decode cX5_run 23 = .ok (.iload_n 1, 1) := by decide +kernel
theorem dX5_run_24 : decode cX5_run 24 = .ok (.if_icmp .ge 172, 3) := by decide +kernel
theorem dX5_run_27 : decode cX5_run 27 = .ok (.aload_n 0, 1) := by decide +kernel
theorem dX5_run_28 : decode cX5_run 28 = .ok (.dup, 1) := by decide +kernel
theorem dX5_run_29 : decode cX5_run 29 = .ok (.getfield 168, 3) := by decide +kernel
theorem dX5_run_32 : decode cX5_run 32 = .ok (.iconst 1, 1) := by decide +kernel
theorem dX5_run_33 : decode cX5_run 33 = .ok (.iadd, 1) := by decide +kernel
theorem dX5_run_34 : decode cX5_run 34 = .ok (.putfield 168, 3) := by decide +kernel
theorem dX5_run_37 : decode cX5_run 37 = .ok (.iconst 0, 1) := by decide +kernel
theorem dX5_run_38 : decode cX5_run 38 = .ok (.istore_n 3, 1) := by decide +kernel
theorem dX5_run_39 : decode cX5_run 39 = .ok (.iload_n 3, 1) := by decide +kernel
theorem dX5_run_40 : decode cX5_run 40 = .ok (.aload_n 0, 1) := by decide +kernel
theorem dX5_run_41 : decode cX5_run 41 = .ok (.getfield 171, 3) := by decide +kernel
theorem dX5_run_44 : decode cX5_run 44 = .ok (.if_icmp .ge 40, 3) := by decide +kernel
theorem dX5_run_47 : decode cX5_run 47 = .ok (.aload_n 0, 1) := by decide +kernel
theorem dX5_run_48 : decode cX5_run 48 = .ok (.getfield 42, 3) := by decide +kernel
theorem dX5_run_51 : decode cX5_run 51 = .ok (.iload_n 3, 1) := by decide +kernel
theorem dX5_run_52 : decode cX5_run 52 = .ok (.iaload, 1) := by decide +kernel
theorem dX5_run_53 : decode cX5_run 53 = .ok (.ifCond .ne 25, 3) := by decide +kernel
theorem dX5_run_56 : decode cX5_run 56 = .ok (.aload_n 0, 1) := by decide +kernel
theorem dX5_run_57 : decode cX5_run 57 = .ok (.getfield 60, 3) := by decide +kernel
theorem dX5_run_60 : decode cX5_run 60 = .ok (.iload_n 3, 1) := by decide +kernel
theorem dX5_run_61 : decode cX5_run 61 = .ok (.iaload, 1) := by decide +kernel
theorem dX5_run_62 : decode cX5_run 62 = .ok (.aload_n 0, 1) := by decide +kernel
theorem dX5_run_63 : decode cX5_run 63 = .ok (.getfield 168, 3) := by decide +kernel
theorem dX5_run_66 : decode cX5_run 66 = .ok (.iconst 1, 1) := by decide +kernel
theorem dX5_run_67 : decode cX5_run 67 = .ok (.isub, 1) := by decide +kernel
theorem dX5_run_68 : decode cX5_run 68 = .ok (.if_icmp .ne 10, 3) := by decide +kernel
theorem dX5_run_71 : decode cX5_run 71 = .ok (.aload_n 0, 1) := by decide +kernel
theorem dX5_run_72 : decode cX5_run 72 = .ok (.getfield 42, 3) := by decide +kernel
theorem dX5_run_75 : decode cX5_run 75 = .ok (.iload_n 3, 1) := by decide +kernel
theorem dX5_run_76 : decode cX5_run 76 = .ok (.iconst 1, 1) := by decide +kernel
theorem dX5_run_77 : decode cX5_run 77 = .ok (.iastore, 1) := by decide +kernel
theorem dX5_run_78 : decode cX5_run 78 = .ok (.iinc 3 1, 3) := by decide +kernel
theorem dX5_run_81 : decode cX5_run 81 = .ok (.goto (-42), 3) := by decide +kernel
theorem dX5_run_84 : decode cX5_run 84 = .ok (.aload_n 0, 1) := by decide +kernel
theorem dX5_run_85 : decode cX5_run 85 = .ok (.invokevirtual 180, 3) := by decide +kernel
theorem dX5_run_88 : decode cX5_run 88 = .ok (.iconst 1, 1) := by decide +kernel
theorem dX5_run_89 : decode cX5_run 89 = .ok (.istore_n 3, 1) := by decide +kernel
theorem dX5_run_90 : decode cX5_run 90 = .ok (.iload_n 3, 1) := by decide +kernel
theorem dX5_run_91 : decode cX5_run 91 = .ok (.iconst 5, 1) := by decide +kernel
theorem dX5_run_92 : decode cX5_run 92 = .ok (.if_icmp .ge 14, 3) := by decide +kernel
theorem dX5_run_95 : decode cX5_run 95 = .ok (.aload_n 0, 1) := by decide +kernel
theorem dX5_run_96 : decode cX5_run 96 = .ok (.iload_n 3, 1) := by decide +kernel
theorem dX5_run_97 : decode cX5_run 97 = .ok (.invokevirtual 183, 3) := by decide +kernel
theorem dX5_run_100 : decode cX5_run 100 = .ok (.iinc 3 1, 3) := by decide +kernel
theorem dX5_run_103 : decode cX5_run 103 = .ok (.goto (-13), 3) := by decide +kernel
theorem dX5_run_106 : decode cX5_run 106 = .ok (.iconst 0, 1) := by decide +kernel
theorem dX5_run_107 : decode cX5_run 107 = .ok (.istore_n 3, 1) := by decide +kernel
theorem dX5_run_108 : decode cX5_run 108 = .ok (.iload_n 3, 1) := by decide +kernel
theorem dX5_run_109 : decode cX5_run 109 = .ok (.aload_n 0, 1) := by decide +kernel
theorem dX5_run_110 : decode cX5_run 110 = .ok (.getfield 171, 3) := by decide +kernel
theorem dX5_run_113 : decode cX5_run 113 = .ok (.if_icmp .ge 73, 3) := by decide +kernel
theorem dX5_run_116 : decode cX5_run 116 = .ok (.aload_n 0, 1) := by decide +kernel
theorem dX5_run_117 : decode cX5_run 117 = .ok (.getfield 42, 3) := by decide +kernel
theorem dX5_run_120 : decode cX5_run 120 = .ok (.iload_n 3, 1) := by decide +kernel
theorem dX5_run_121 : decode cX5_run 121 = .ok (.iaload, 1) := by decide +kernel
theorem dX5_run_122 : decode cX5_run 122 = .ok (.iconst 1, 1) := by decide +kernel
theorem dX5_run_123 : decode cX5_run 123 = .ok (.if_icmp .ne 57, 3) := by decide +kernel
theorem dX5_run_126 : decode cX5_run 126 = .ok (.aload_n 0, 1) := by decide +kernel
theorem dX5_run_127 : decode cX5_run 127 = .ok (.iload_n 3, 1) := by decide +kernel
theorem dX5_run_128 : decode cX5_run 128 = .ok (.invokevirtual 177, 3) := by decide +kernel
theorem dX5_run_131 : decode cX5_run 131 = .ok (.iconst (-1), 1) := by decide +kernel
theorem dX5_run_132 : decode cX5_run 132 = .ok (.if_icmp .ne 6, 3) := by decide +kernel
theorem dX5_run_135 : decode cX5_run 135 = .ok (.goto 45, 3) := by decide +kernel
theorem dX5_run_138 : decode cX5_run 138 = .ok (.aload_n 0, 1) := by decide +kernel
theorem dX5_run_139 : decode cX5_run 139 = .ok (.getfield 45, 3) := by decide +kernel
theorem dX5_run_142 : decode cX5_run 142 = .ok (.iload_n 3, 1) := by decide +kernel
theorem dX5_run_143 : decode cX5_run 143 = .ok (.iaload, 1) := by decide +kernel
theorem dX5_run_144 : decode cX5_run 144 = .ok (.aload_n 0, 1) := by decide +kernel
theorem dX5_run_145 : decode cX5_run 145 = .ok (.getfield 69, 3) := by decide +kernel
theorem dX5_run_148 : decode cX5_run 148 = .ok (.aload_n 0, 1) := by decide +kernel
theorem dX5_run_149 : decode cX5_run 149 = .ok (.iload_n 3, 1) := by decide +kernel
theorem dX5_run_150 : decode cX5_run 150 = .ok (.invokevirtual 177, 3) := by decide +kernel
theorem dX5_run_153 : decode cX5_run 153 = .ok (.iaload, 1) := by decide +kernel
theorem dX5_run_154 : decode cX5_run 154 = .ok (.iadd, 1) := by decide +kernel
theorem dX5_run_155 : decode cX5_run 155 = .ok (.istore 4, 2) := by decide +kernel
theorem dX5_run_157 : decode cX5_run 157 = .ok (.iload 4, 2) := by decide +kernel
theorem dX5_run_159 : decode cX5_run 159 = .ok (.iconst 0, 1) := by decide +kernel
theorem dX5_run_160 : decode cX5_run 160 = .ok (.aload_n 0, 1) := by decide +kernel
theorem dX5_run_161 : decode cX5_run 161 = .ok (.getfield 159, 3) := by decide +kernel
theorem dX5_run_164 : decode cX5_run 164 = .ok (.iconst 1, 1) := by decide +kernel
theorem dX5_run_165 : decode cX5_run 165 = .ok (.isub, 1) := by decide +kernel
theorem dX5_run_166 : decode cX5_run 166 = .ok (.invokestatic 96, 3) := by decide +kernel
theorem dX5_run_169 : decode cX5_run 169 = .ok (.ifCond .eq 11, 3) := by decide +kernel
theorem dX5_run_172 : decode cX5_run 172 = .ok (.aload_n 0, 1) := by decide +kernel
theorem dX5_run_173 : decode cX5_run 173 = .ok (.getfield 45, 3) := by decide +kernel
theorem dX5_run_176 : decode cX5_run 176 = .ok (.iload_n 3, 1) := by decide +kernel
theorem dX5_run_177 : decode cX5_run 177 = .ok (.iload 4, 2) := by decide +kernel
theorem dX5_run_179 : decode cX5_run 179 = .ok (.iastore, 1) := by decide +kernel
theorem dX5_run_180 : decode cX5_run 180 = .ok (.iinc 3 1, 3) := by decide +kernel
theorem dX5_run_183 : decode cX5_run 183 = .ok (.goto (-75), 3) := by decide +kernel
theorem dX5_run_186 : decode cX5_run 186 = .ok (.aload_n 0, 1) := by decide +kernel
theorem dX5_run_187 : decode cX5_run 187 = .ok (.invokevirtual 180, 3) := by decide +kernel
theorem dX5_run_190 : decode cX5_run 190 = .ok (.iinc 2 1, 3) := by decide +kernel
theorem dX5_run_193 : decode cX5_run 193 = .ok (.goto (-171), 3) := by decide +kernel
theorem dX5_run_196 : decode cX5_run 196 = .ok (.iconst 0, 1) := by decide +kernel
theorem dX5_run_197 : decode cX5_run 197 = .ok (.istore_n 2, 1) := by decide +kernel
theorem dX5_run_198 : decode cX5_run 198 = .ok (.iconst 0, 1) := by decide +kernel
theorem dX5_run_199 : decode cX5_run 199 = .ok (.istore_n 3, 1) := by decide +kernel
theorem dX5_run_200 : decode cX5_run 200 = .ok (.iload_n 3, 1) := by decide +kernel
theorem dX5_run_201 : decode cX5_run 201 = .ok (.aload_n 0, 1) := by decide +kernel
theorem dX5_run_202 : decode cX5_run 202 = .ok (.getfield 171, 3) := by decide +kernel
theorem dX5_run_205 : decode cX5_run 205 = .ok (.if_icmp .ge 22, 3) := by decide +kernel
theorem dX5_run_208 : decode cX5_run 208 = .ok (.aload_n 0, 1) := by decide +kernel
theorem dX5_run_209 : decode cX5_run 209 = .ok (.getfield 42, 3) := by decide +kernel
theorem dX5_run_212 : decode cX5_run 212 = .ok (.iload_n 3, 1) := by decide +kernel
theorem dX5_run_213 : decode cX5_run 213 = .ok (.iaload, 1) := by decide +kernel
theorem dX5_run_214 : decode cX5_run 214 = .ok (.iconst 1, 1) := by decide +kernel
theorem dX5_run_215 : decode cX5_run 215 = .ok (.if_icmp .ne 6, 3) := by decide +kernel
theorem dX5_run_218 : decode cX5_run 218 = .ok (.iinc 2 1, 3) := by decide +kernel
theorem dX5_run_221 : decode cX5_run 221 = .ok (.iinc 3 1, 3) := by decide +kernel
theorem dX5_run_224 : decode cX5_run 224 = .ok (.goto (-24), 3) := by decide +kernel
theorem dX5_run_227 : decode cX5_run 227 = .ok (.iload_n 2, 1) := by decide +kernel
theorem dX5_run_228 : decode cX5_run 228 = .ok (.ireturn, 1) := by decide +kernel
set_option maxRecDepth 20000 in
theorem ggX5_at_X5_in : GoodIn wsX5_at wsX5_in := goodIn_r _ [11] (by decide +kernel) (by decide +kernel)
set_option maxRecDepth 20000 in
theorem gX5_at_X5_in : GoodIn wsX5_at (va_wsS RX5 96 yX5_in wsX5_in) := goodIn_app (goodIn_of _ (by decide +kernel)) ggX5_at_X5_in
theorem dX5_at_0 : decode cX5_at 0 = .ok (.iload_n 1, 1) := by decide +kernel
theorem dX5_at_1 : decode cX5_at 1 = .ok (.iconst 0, 1) := by decide +kernel
theorem dX5_at_2 : decode cX5_at 2 = .ok (.aload_n 0, 1) := by decide +kernel
theorem dX5_at_3 : decode cX5_at 3 = .ok (.getfield 171, 3) := by decide +kernel
theorem dX5_at_6 : decode cX5_at 6 = .ok (.iconst 1, 1) := by decide +kernel
theorem dX5_at_7 : decode cX5_at 7 = .ok (.isub, 1) := by decide +kernel
theorem dX5_at_8 : decode cX5_at 8 = .ok (.invokestatic 96, 3) := by decide +kernel
theorem dX5_at_11 : decode cX5_at 11 = .ok (.ifCond .ne 5, 3) := by decide +kernel
theorem dX5_at_14 : decode cX5_at 14 = .ok (.iconst (-1), 1) := by decide +kernel
theorem dX5_at_15 : decode cX5_at 15 = .ok (.ireturn, 1) := by decide +kernel
theorem dX5_at_16 : decode cX5_at 16 = .ok (.iload_n 2, 1) := by decide +kernel
theorem dX5_at_17 : decode cX5_at 17 = .ok (.tableswitch 81 0 5 #[39, 46, 53, 60, 67, 74], 39) := by decide +kernel
theorem dX5_at_56 : decode cX5_at 56 = .ok (.aload_n 0, 1) := by decide +kernel
theorem dX5_at_57 : decode cX5_at 57 = .ok (.getfield 42, 3) := by decide +kernel
theorem dX5_at_60 : decode cX5_at 60 = .ok (.iload_n 1, 1) := by decide +kernel
theorem dX5_at_61 : decode cX5_at 61 = .ok (.iaload, 1) := by decide +kernel
theorem dX5_at_62 : decode cX5_at 62 = .ok (.ireturn, 1) := by decide +kernel
theorem dX5_at_63 : decode cX5_at 63 = .ok (.aload_n 0, 1) := by decide +kernel
theorem dX5_at_64 : decode cX5_at 64 = .ok (.getfield 45, 3) := by decide +kernel
theorem dX5_at_67 : decode cX5_at 67 = .ok (.iload_n 1, 1) := by decide +kernel
theorem dX5_at_68 : decode cX5_at 68 = .ok (.iaload, 1) := by decide +kernel
theorem dX5_at_69 : decode cX5_at 69 = .ok (.ireturn, 1) := by decide +kernel
theorem dX5_at_70 : decode cX5_at 70 = .ok (.aload_n 0, 1) := by decide +kernel
theorem dX5_at_71 : decode cX5_at 71 = .ok (.getfield 48, 3) := by decide +kernel
theorem dX5_at_74 : decode cX5_at 74 = .ok (.iload_n 1, 1) := by decide +kernel
theorem dX5_at_75 : decode cX5_at 75 = .ok (.iaload, 1) := by decide +kernel
theorem dX5_at_76 : decode cX5_at 76 = .ok (.ireturn, 1) := by decide +kernel
theorem dX5_at_77 : decode cX5_at 77 = .ok (.aload_n 0, 1) := by decide +kernel
theorem dX5_at_78 : decode cX5_at 78 = .ok (.getfield 51, 3) := by decide +kernel
theorem dX5_at_81 : decode cX5_at 81 = .ok (.iload_n 1, 1) := by decide +kernel
theorem dX5_at_82 : decode cX5_at 82 = .ok (.iaload, 1) := by decide +kernel
theorem dX5_at_83 : decode cX5_at 83 = .ok (.ireturn, 1) := by decide +kernel
theorem dX5_at_84 : decode cX5_at 84 = .ok (.aload_n 0, 1) := by decide +kernel
theorem dX5_at_85 : decode cX5_at 85 = .ok (.getfield 54, 3) := by decide +kernel
theorem dX5_at_88 : decode cX5_at 88 = .ok (.iload_n 1, 1) := by decide +kernel
theorem dX5_at_89 : decode cX5_at 89 = .ok (.iaload, 1) := by decide +kernel
theorem dX5_at_90 : decode cX5_at 90 = .ok (.ireturn, 1) := by decide +kernel
theorem dX5_at_91 : decode cX5_at 91 = .ok (.aload_n 0, 1) := by decide +kernel
theorem dX5_at_92 : decode cX5_at 92 = .ok (.getfield 57, 3) := by decide +kernel
theorem dX5_at_95 : decode cX5_at 95 = .ok (.iload_n 1, 1) := by decide +kernel
theorem dX5_at_96 : decode cX5_at 96 = .ok (.iaload, 1) := by decide +kernel
theorem dX5_at_97 : decode cX5_at 97 = .ok (.ireturn, 1) := by decide +kernel
theorem dX5_at_98 : decode cX5_at 98 = .ok (.iconst (-1), 1) := by decide +kernel
theorem dX5_at_99 : decode cX5_at 99 = .ok (.ireturn, 1) := by decide +kernel
set_option maxRecDepth 20000 in
theorem ggX5_stone_X5_in : GoodIn wsX5_stone wsX5_in := goodIn_r _ [11] (by decide +kernel) (by decide +kernel)
set_option maxRecDepth 20000 in
theorem gX5_stone_X5_in : GoodIn wsX5_stone (va_wsS RX5 96 yX5_in wsX5_in) := goodIn_app (goodIn_of _ (by decide +kernel)) ggX5_stone_X5_in
theorem dX5_stone_0 : decode cX5_stone 0 = .ok (.iload_n 1, 1) := by decide +kernel
theorem dX5_stone_1 : decode cX5_stone 1 = .ok (.iconst 0, 1) := by decide +kernel
theorem dX5_stone_2 : decode cX5_stone 2 = .ok (.iconst 3, 1) := by decide +kernel
theorem dX5_stone_3 : decode cX5_stone 3 = .ok (.invokestatic 96, 3) := by decide +kernel
theorem dX5_stone_6 : decode cX5_stone 6 = .ok (.ifCond .eq 50, 3) := by decide +kernel
theorem dX5_stone_9 : decode cX5_stone 9 = .ok (.iload_n 2, 1) := by decide +kernel
theorem dX5_stone_10 : decode cX5_stone 10 = .ok (.iconst 0, 1) := by decide +kernel
theorem dX5_stone_11 : decode cX5_stone 11 = .ok (.bipush 40, 2) := by decide +kernel
theorem dX5_stone_13 : decode cX5_stone 13 = .ok (.invokestatic 96, 3) := by decide +kernel
theorem dX5_stone_16 : decode cX5_stone 16 = .ok (.ifCond .eq 40, 3) := by decide +kernel
theorem dX5_stone_19 : decode cX5_stone 19 = .ok (.iload_n 3, 1) := by decide +kernel
theorem dX5_stone_20 : decode cX5_stone 20 = .ok (.iload_n 2, 1) := by decide +kernel
theorem dX5_stone_21 : decode cX5_stone 21 = .ok (.bipush 40, 2) := by decide +kernel
theorem dX5_stone_23 : decode cX5_stone 23 = .ok (.invokestatic 96, 3) := by decide +kernel
theorem dX5_stone_26 : decode cX5_stone 26 = .ok (.ifCond .eq 30, 3) := by decide +kernel
theorem dX5_stone_29 : decode cX5_stone 29 = .ok (.iload_n 3, 1) := by decide +kernel
theorem dX5_stone_30 : decode cX5_stone 30 = .ok (.iload_n 2, 1) := by decide +kernel
theorem dX5_stone_31 : decode cX5_stone 31 = .ok (.isub, 1) := by decide +kernel
theorem dX5_stone_32 : decode cX5_stone 32 = .ok (.iconst 5, 1) := by decide +kernel
theorem dX5_stone_33 : decode cX5_stone 33 = .ok (.if_icmp .gt 23, 3) := by decide +kernel
theorem dX5_stone_36 : decode cX5_stone 36 = .ok (.iload 6, 2) := by decide +kernel
theorem dX5_stone_38 : decode cX5_stone 38 = .ok (.iconst (-1), 1) := by decide +kernel
theorem dX5_stone_39 : decode cX5_stone 39 = .ok (.bipush 9, 2) := by decide +kernel
theorem dX5_stone_41 : decode cX5_stone 41 = .ok (.invokestatic 96, 3) := by decide +kernel
theorem dX5_stone_44 : decode cX5_stone 44 = .ok (.ifCond .eq 12, 3) := by decide +kernel
theorem dX5_stone_47 : decode cX5_stone 47 = .ok (.aload_n 0, 1) := by decide +kernel
theorem dX5_stone_48 : decode cX5_stone 48 = .ok (.getfield 187, 3) := by decide +kernel
theorem dX5_stone_51 : decode cX5_stone 51 = .ok (.bipush 6, 2) := by decide +kernel
theorem dX5_stone_53 : decode cX5_stone 53 = .ok (.if_icmp .ne 5, 3) := by decide +kernel
theorem dX5_stone_56 : decode cX5_stone 56 = .ok (.iconst (-1), 1) := by decide +kernel
theorem dX5_stone_57 : decode cX5_stone 57 = .ok (.ireturn, 1) := by decide +kernel
theorem dX5_stone_58 : decode cX5_stone 58 = .ok (.iconst 0, 1) := by decide +kernel
theorem dX5_stone_59 : decode cX5_stone 59 = .ok (.istore 7, 2) := by decide +kernel
theorem dX5_stone_61 : decode cX5_stone 61 = .ok (.iload 7, 2) := by decide +kernel
theorem dX5_stone_63 : decode cX5_stone 63 = .ok (.iconst 4, 1) := by decide +kernel
theorem dX5_stone_64 : decode cX5_stone 64 = .ok (.if_icmp .ge 51, 3) := by decide +kernel
theorem dX5_stone_67 : decode cX5_stone 67 = .ok (.iload 4, 2) := by decide +kernel
theorem dX5_stone_69 : decode cX5_stone 69 = .ok (.bipush 24, 2) := by decide +kernel
theorem dX5_stone_71 : decode cX5_stone 71 = .ok (.bipush 8, 2) := by decide +kernel
theorem dX5_stone_73 : decode cX5_stone 73 = .ok (.iload 7, 2) := by decide +kernel
theorem dX5_stone_75 : decode cX5_stone 75 = .ok (.imul, 1) := by decide +kernel
theorem dX5_stone_76 : decode cX5_stone 76 = .ok (.isub, 1) := by decide +kernel
theorem dX5_stone_77 : decode cX5_stone 77 = .ok (.iushr, 1) := by decide +kernel
theorem dX5_stone_78 : decode cX5_stone 78 = .ok (.sipush 255, 3) := by decide +kernel
theorem dX5_stone_81 : decode cX5_stone 81 = .ok (.iand, 1) := by decide +kernel
theorem dX5_stone_82 : decode cX5_stone 82 = .ok (.bipush 26, 2) := by decide +kernel
theorem dX5_stone_84 : decode cX5_stone 84 = .ok (.if_icmp .gt 23, 3) := by decide +kernel
theorem dX5_stone_87 : decode cX5_stone 87 = .ok (.iload 5, 2) := by decide +kernel
theorem dX5_stone_89 : decode cX5_stone 89 = .ok (.bipush 24, 2) := by decide +kernel
theorem dX5_stone_91 : decode cX5_stone 91 = .ok (.bipush 8, 2) := by decide +kernel
theorem dX5_stone_93 : decode cX5_stone 93 = .ok (.iload 7, 2) := by decide +kernel
theorem dX5_stone_95 : decode cX5_stone 95 = .ok (.imul, 1) := by decide +kernel
theorem dX5_stone_96 : decode cX5_stone 96 = .ok (.isub, 1) := by decide +kernel
theorem dX5_stone_97 : decode cX5_stone 97 = .ok (.iushr, 1) := by decide +kernel
theorem dX5_stone_98 : decode cX5_stone 98 = .ok (.sipush 255, 3) := by decide +kernel
theorem dX5_stone_101 : decode cX5_stone 101 = .ok (.iand, 1) := by decide +kernel
theorem dX5_stone_102 : decode cX5_stone 102 = .ok (.bipush 26, 2) := by decide +kernel
theorem dX5_stone_104 : decode cX5_stone 104 = .ok (.if_icmp .le 5, 3) := by decide +kernel
theorem dX5_stone_107 : decode cX5_stone 107 = .ok (.iconst (-1), 1) := by decide +kernel
theorem dX5_stone_108 : decode cX5_stone 108 = .ok (.ireturn, 1) := by decide +kernel
theorem dX5_stone_109 : decode cX5_stone 109 = .ok (.iinc 7 1, 3) := by decide +kernel
theorem dX5_stone_112 : decode cX5_stone 112 = .ok (.goto (-51), 3) := by decide +kernel
theorem dX5_stone_115 : decode cX5_stone 115 = .ok (.iconst 0, 1) := by decide +kernel
theorem dX5_stone_116 : decode cX5_stone 116 = .ok (.istore 7, 2) := by decide +kernel
theorem dX5_stone_118 : decode cX5_stone 118 = .ok (.iload 7, 2) := by decide +kernel
theorem dX5_stone_120 : decode cX5_stone 120 = .ok (.iconst 4, 1) := by decide +kernel
theorem dX5_stone_121 : decode cX5_stone 121 = .ok (.if_icmp .ge 71, 3) := by decide +kernel
theorem dX5_stone_124 : decode cX5_stone 124 = .ok (.aload_n 0, 1) := by decide +kernel
theorem dX5_stone_125 : decode cX5_stone 125 = .ok (.getfield 81, 3) := by decide +kernel
theorem dX5_stone_128 : decode cX5_stone 128 = .ok (.bipush 8, 2) := by decide +kernel
theorem dX5_stone_130 : decode cX5_stone 130 = .ok (.aload_n 0, 1) := by decide +kernel
theorem dX5_stone_131 : decode cX5_stone 131 = .ok (.getfield 187, 3) := by decide +kernel
theorem dX5_stone_134 : decode cX5_stone 134 = .ok (.imul, 1) := by decide +kernel
theorem dX5_stone_135 : decode cX5_stone 135 = .ok (.iload 7, 2) := by decide +kernel
theorem dX5_stone_137 : decode cX5_stone 137 = .ok (.iadd, 1) := by decide +kernel
theorem dX5_stone_138 : decode cX5_stone 138 = .ok (.iload 4, 2) := by decide +kernel
theorem dX5_stone_140 : decode cX5_stone 140 = .ok (.bipush 24, 2) := by decide +kernel
theorem dX5_stone_142 : decode cX5_stone 142 = .ok (.bipush 8, 2) := by decide +kernel
theorem dX5_stone_144 : decode cX5_stone 144 = .ok (.iload 7, 2) := by decide +kernel
theorem dX5_stone_146 : decode cX5_stone 146 = .ok (.imul, 1) := by decide +kernel
theorem dX5_stone_147 : decode cX5_stone 147 = .ok (.isub, 1) := by decide +kernel
theorem dX5_stone_148 : decode cX5_stone 148 = .ok (.iushr, 1) := by decide +kernel
theorem dX5_stone_149 : decode cX5_stone 149 = .ok (.sipush 255, 3) := by decide +kernel
theorem dX5_stone_152 : decode cX5_stone 152 = .ok (.iand, 1) := by decide +kernel
theorem dX5_stone_153 : decode cX5_stone 153 = .ok (.iastore, 1) := by decide +kernel
theorem dX5_stone_154 : decode cX5_stone 154 = .ok (.aload_n 0, 1) := by decide +kernel
theorem dX5_stone_155 : decode cX5_stone 155 = .ok (.getfield 81, 3) := by decide +kernel
theorem dX5_stone_158 : decode cX5_stone 158 = .ok (.bipush 8, 2) := by decide +kernel
theorem dX5_stone_160 : decode cX5_stone 160 = .ok (.aload_n 0, 1) := by decide +kernel
theorem dX5_stone_161 : decode cX5_stone 161 = .ok (.getfield 187, 3) := by decide +kernel
theorem dX5_stone_164 : decode cX5_stone 164 = .ok (.imul, 1) := by decide +kernel
theorem dX5_stone_165 : decode cX5_stone 165 = .ok (.iconst 4, 1) := by decide +kernel
theorem dX5_stone_166 : decode cX5_stone 166 = .ok (.iadd, 1) := by decide +kernel
theorem dX5_stone_167 : decode cX5_stone 167 = .ok (.iload 7, 2) := by decide +kernel
theorem dX5_stone_169 : decode cX5_stone 169 = .ok (.iadd, 1) := by decide +kernel
theorem dX5_stone_170 : decode cX5_stone 170 = .ok (.iload 5, 2) := by decide +kernel
theorem dX5_stone_172 : decode cX5_stone 172 = .ok (.bipush 24, 2) := by decide +kernel
theorem dX5_stone_174 : decode cX5_stone 174 = .ok (.bipush 8, 2) := by decide +kernel
theorem dX5_stone_176 : decode cX5_stone 176 = .ok (.iload 7, 2) := by decide +kernel
theorem dX5_stone_178 : decode cX5_stone 178 = .ok (.imul, 1) := by decide +kernel
theorem dX5_stone_179 : decode cX5_stone 179 = .ok (.isub, 1) := by decide +kernel
theorem dX5_stone_180 : decode cX5_stone 180 = .ok (.iushr, 1) := by decide +kernel
theorem dX5_stone_181 : decode cX5_stone 181 = .ok (.sipush 255, 3) := by decide +kernel
theorem dX5_stone_184 : decode cX5_stone 184 = .ok (.iand, 1) := by decide +kernel
theorem dX5_stone_185 : decode cX5_stone 185 = .ok (.iastore, 1) := by decide +kernel
theorem dX5_stone_186 : decode cX5_stone 186 = .ok (.iinc 7 1, 3) := by decide +kernel
theorem dX5_stone_189 : decode cX5_stone 189 = .ok (.goto (-71), 3) := by decide +kernel
theorem dX5_stone_192 : decode cX5_stone 192 = .ok (.aload_n 0, 1) := by decide +kernel
theorem dX5_stone_193 : decode cX5_stone 193 = .ok (.getfield 72, 3) := by decide +kernel
theorem dX5_stone_196 : decode cX5_stone 196 = .ok (.aload_n 0, 1) := by decide +kernel
theorem dX5_stone_197 : decode cX5_stone 197 = .ok (.getfield 187, 3) := by decide +kernel
theorem dX5_stone_200 : decode cX5_stone 200 = .ok (.iload_n 1, 1) := by decide +kernel
theorem dX5_stone_201 : decode cX5_stone 201 = .ok (.iastore, 1) := by decide +kernel
theorem dX5_stone_202 : decode cX5_stone 202 = .ok (.aload_n 0, 1) := by decide +kernel
theorem dX5_stone_203 : decode cX5_stone 203 = .ok (.getfield 75, 3) := by decide +kernel
theorem dX5_stone_206 : decode cX5_stone 206 = .ok (.aload_n 0, 1) := by decide +kernel
theorem dX5_stone_207 : decode cX5_stone 207 = .ok (.getfield 187, 3) := by decide +kernel
theorem dX5_stone_210 : decode cX5_stone 210 = .ok (.iload_n 2, 1) := by decide +kernel
theorem dX5_stone_211 : decode cX5_stone 211 = .ok (.iastore, 1) := by decide +kernel
theorem dX5_stone_212 : decode cX5_stone 212 = .ok (.aload_n 0, 1) := by decide +kernel
theorem dX5_stone_213 : decode cX5_stone 213 = .ok (.getfield 78, 3) := by decide +kernel
theorem dX5_stone_216 : decode cX5_stone 216 = .ok (.aload_n 0, 1) := by decide +kernel
theorem dX5_stone_217 : decode cX5_stone 217 = .ok (.getfield 187, 3) := by decide +kernel
theorem dX5_stone_220 : decode cX5_stone 220 = .ok (.iload_n 3, 1) := by decide +kernel
theorem dX5_stone_221 : decode cX5_stone 221 = .ok (.iastore, 1) := by decide +kernel
theorem dX5_stone_222 : decode cX5_stone 222 = .ok (.aload_n 0, 1) := by decide +kernel
theorem dX5_stone_223 : decode cX5_stone 223 = .ok (.getfield 84, 3) := by decide +kernel
theorem dX5_stone_226 : decode cX5_stone 226 = .ok (.aload_n 0, 1) := by decide +kernel
theorem dX5_stone_227 : decode cX5_stone 227 = .ok (.getfield 187, 3) := by decide +kernel
theorem dX5_stone_230 : decode cX5_stone 230 = .ok (.iload 6, 2) := by decide +kernel
theorem dX5_stone_232 : decode cX5_stone 232 = .ok (.iastore, 1) := by decide +kernel
theorem dX5_stone_233 : decode cX5_stone 233 = .ok (.iconst 0, 1) := by decide +kernel
theorem dX5_stone_234 : decode cX5_stone 234 = .ok (.istore 7, 2) := by decide +kernel
theorem dX5_stone_236 : decode cX5_stone 236 = .ok (.iload 7, 2) := by decide +kernel
theorem dX5_stone_238 : decode cX5_stone 238 = .ok (.bipush 6, 2) := by decide +kernel
theorem dX5_stone_240 : decode cX5_stone 240 = .ok (.if_icmp .ge 41, 3) := by decide +kernel
theorem dX5_stone_243 : decode cX5_stone 243 = .ok (.aload_n 0, 1) := by decide +kernel
theorem dX5_stone_244 : decode cX5_stone 244 = .ok (.getfield 87, 3) := by decide +kernel
theorem dX5_stone_247 : decode cX5_stone 247 = .ok (.bipush 6, 2) := by decide +kernel
theorem dX5_stone_249 : decode cX5_stone 249 = .ok (.aload_n 0, 1) := by decide +kernel
theorem dX5_stone_250 : decode cX5_stone 250 = .ok (.getfield 187, 3) := by decide +kernel
theorem dX5_stone_253 : decode cX5_stone 253 = .ok (.imul, 1) := by decide +kernel
theorem dX5_stone_254 : decode cX5_stone 254 = .ok (.iload 7, 2) := by decide +kernel
theorem dX5_stone_256 : decode cX5_stone 256 = .ok (.iadd, 1) := by decide +kernel
theorem dX5_stone_257 : decode cX5_stone 257 = .ok (.iconst 0, 1) := by decide +kernel
theorem dX5_stone_258 : decode cX5_stone 258 = .ok (.bastore, 1) := by decide +kernel
theorem dX5_stone_259 : decode cX5_stone 259 = .ok (.aload_n 0, 1) := by decide +kernel
theorem dX5_stone_260 : decode cX5_stone 260 = .ok (.getfield 87, 3) := by decide +kernel
theorem dX5_stone_263 : decode cX5_stone 263 = .ok (.bipush 6, 2) := by decide +kernel
theorem dX5_stone_265 : decode cX5_stone 265 = .ok (.iload 7, 2) := by decide +kernel
theorem dX5_stone_267 : decode cX5_stone 267 = .ok (.imul, 1) := by decide +kernel
theorem dX5_stone_268 : decode cX5_stone 268 = .ok (.aload_n 0, 1) := by decide +kernel
theorem dX5_stone_269 : decode cX5_stone 269 = .ok (.getfield 187, 3) := by decide +kernel
theorem dX5_stone_272 : decode cX5_stone 272 = .ok (.iadd, 1) := by decide +kernel
theorem dX5_stone_273 : decode cX5_stone 273 = .ok (.iconst 0, 1) := by decide +kernel
theorem dX5_stone_274 : decode cX5_stone 274 = .ok (.bastore, 1) := by decide +kernel
theorem dX5_stone_275 : decode cX5_stone 275 = .ok (.iinc 7 1, 3) := by decide +kernel
theorem dX5_stone_278 : decode cX5_stone 278 = .ok (.goto (-42), 3) := by decide +kernel
theorem dX5_stone_281 : decode cX5_stone 281 = .ok (.aload_n 0, 1) := by decide +kernel
theorem dX5_stone_282 : decode cX5_stone 282 = .ok (.dup, 1) := by decide +kernel
theorem dX5_stone_283 : decode cX5_stone 283 = .ok (.getfield 187, 3) := by decide +kernel
theorem dX5_stone_286 : decode cX5_stone 286 = .ok (.iconst 1, 1) := by decide +kernel
theorem dX5_stone_287 : decode cX5_stone 287 = .ok (.iadd, 1) := by decide +kernel
theorem dX5_stone_288 : decode cX5_stone 288 = .ok (.putfield 187, 3) := by decide +kernel
theorem dX5_stone_291 : decode cX5_stone 291 = .ok (.aload_n 0, 1) := by decide +kernel
theorem dX5_stone_292 : decode cX5_stone 292 = .ok (.getfield 187, 3) := by decide +kernel
theorem dX5_stone_295 : decode cX5_stone 295 = .ok (.iconst 1, 1) := by decide +kernel
theorem dX5_stone_296 : decode cX5_stone 296 = .ok (.isub, 1) := by decide +kernel
theorem dX5_stone_297 : decode cX5_stone 297 = .ok (.ireturn, 1) := by decide +kernel
set_option maxRecDepth 20000 in
theorem ggX5_isStone_X5_in : GoodIn wsX5_isStone wsX5_in := goodIn_r _ [5] (by decide +kernel) (by decide +kernel)
set_option maxRecDepth 20000 in
theorem gX5_isStone_X5_in : GoodIn wsX5_isStone (va_wsS RX5 96 yX5_in wsX5_in) := goodIn_app (goodIn_of _ (by decide +kernel)) ggX5_isStone_X5_in
theorem dX5_isStone_0 : decode cX5_isStone 0 = .ok (.iload_n 1, 1) := by decide +kernel
theorem dX5_isStone_1 : decode cX5_isStone 1 = .ok (.iconst 0, 1) := by decide +kernel
theorem dX5_isStone_2 : decode cX5_isStone 2 = .ok (.aload_n 0, 1) := by decide +kernel
theorem dX5_isStone_3 : decode cX5_isStone 3 = .ok (.getfield 187, 3) := by decide +kernel
theorem dX5_isStone_6 : decode cX5_isStone 6 = .ok (.iconst 1, 1) := by decide +kernel
theorem dX5_isStone_7 : decode cX5_isStone 7 = .ok (.isub, 1) := by decide +kernel
theorem dX5_isStone_8 : decode cX5_isStone 8 = .ok (.invokestatic 96, 3) := by decide +kernel
theorem dX5_isStone_11 : decode cX5_isStone 11 = .ok (.ireturn, 1) := by decide +kernel
set_option maxRecDepth 20000 in
theorem ggX5_join_X5_isStone : GoodIn wsX5_join wsX5_isStone := goodIn_r _ [6, 7, 8, 9, 5, 10, 11, 12, 13, 14, 15, 16, 17, 18, 19, 20, 21, 22, 23, 24, 25, 26, 27, 28, 29, 30, 31, 32, 33, 34, 35, 36, 37, 38, 39, 40, 41, 42, 43, 44, 45, 46, 47, 48, 49, 50, 51, 52, 53, 54] (by decide +kernel) (by decide +kernel)
set_option maxRecDepth 20000 in
theorem gX5_join_X5_isStone : GoodIn wsX5_join (wsV RX5 190 RX5 yX5_isStone wsX5_isStone) := goodIn_app (goodIn_of _ (by decide +kernel)) ggX5_join_X5_isStone
theorem dX5_join_0 : decode cX5_join 0 = .ok (.aload_n 0, 1) := by decide +kernel
theorem dX5_join_1 : decode cX5_join 1 = .ok (.iload_n 1, 1) := by decide +kernel
theorem dX5_join_2 : decode cX5_join 2 = .ok (.invokevirtual 190, 3) := by decide +kernel
theorem dX5_join_5 : decode cX5_join 5 = .ok (.ifCond .eq 16, 3) := by decide +kernel
theorem dX5_join_8 : decode cX5_join 8 = .ok (.aload_n 0, 1) := by decide +kernel
theorem dX5_join_9 : decode cX5_join 9 = .ok (.iload_n 2, 1) := by decide +kernel
theorem dX5_join_10 : decode cX5_join 10 = .ok (.invokevirtual 190, 3) := by decide +kernel
theorem dX5_join_13 : decode cX5_join 13 = .ok (.ifCond .eq 8, 3) := by decide +kernel
theorem dX5_join_16 : decode cX5_join 16 = .ok (.iload_n 1, 1) := by decide +kernel
theorem dX5_join_17 : decode cX5_join 17 = .ok (.iload_n 2, 1) := by decide +kernel
theorem dX5_join_18 : decode cX5_join 18 = .ok (.if_icmp .ne 5, 3) := by decide +kernel
theorem dX5_join_21 : decode cX5_join 21 = .ok (.iconst 0, 1) := by decide +kernel
theorem dX5_join_22 : decode cX5_join 22 = .ok (.ireturn, 1) := by decide +kernel
theorem dX5_join_23 : decode cX5_join 23 = .ok (.aload_n 0, 1) := by decide +kernel
theorem dX5_join_24 : decode cX5_join 24 = .ok (.getfield 87, 3) := by decide +kernel
theorem dX5_join_27 : decode cX5_join 27 = .ok (.bipush 6, 2) := by decide +kernel
theorem dX5_join_29 : decode cX5_join 29 = .ok (.iload_n 1, 1) := by decide +kernel
theorem dX5_join_30 : decode cX5_join 30 = .ok (.imul, 1) := by decide +kernel
theorem dX5_join_31 : decode cX5_join 31 = .ok (.iload_n 2, 1) := by decide +kernel
theorem dX5_join_32 : decode cX5_join 32 = .ok (.iadd, 1) := by decide +kernel
theorem dX5_join_33 : decode cX5_join 33 = .ok (.iload_n 3, 1) := by decide +kernel
theorem dX5_join_34 : decode cX5_join 34 = .ok (.bastore, 1) := by decide +kernel
theorem dX5_join_35 : decode cX5_join 35 = .ok (.aload_n 0, 1) := by decide +kernel
theorem dX5_join_36 : decode cX5_join 36 = .ok (.getfield 87, 3) := by decide +kernel
theorem dX5_join_39 : decode cX5_join 39 = .ok (.bipush 6, 2) := by decide +kernel
theorem dX5_join_41 : decode cX5_join 41 = .ok (.iload_n 2, 1) := by decide +kernel
theorem dX5_join_42 : decode cX5_join 42 = .ok (.imul, 1) := by decide +kernel
theorem dX5_join_43 : decode cX5_join 43 = .ok (.iload_n 1, 1) := by decide +kernel
theorem dX5_join_44 : decode cX5_join 44 = .ok (.iadd, 1) := by decide +kernel
theorem dX5_join_45 : decode cX5_join 45 = .ok (.iload_n 3, 1) := by decide +kernel
theorem dX5_join_46 : decode cX5_join 46 = .ok (.bastore, 1) := by decide +kernel
theorem dX5_join_47 : decode cX5_join 47 = .ok (.iconst 1, 1) := by decide +kernel
theorem dX5_join_48 : decode cX5_join 48 = .ok (.ireturn, 1) := by decide +kernel
set_option maxRecDepth 20000 in
theorem ggX5_span_X5_in : GoodIn wsX5_span wsX5_in := goodIn_r _ [5] (by decide +kernel) (by decide +kernel)
set_option maxRecDepth 20000 in
theorem gX5_span_X5_in : GoodIn wsX5_span (va_wsS RX5 96 yX5_in wsX5_in) := goodIn_app (goodIn_of _ (by decide +kernel)) ggX5_span_X5_in
theorem dX5_span_0 : decode cX5_span 0 = .ok (.iload_n 1, 1) := by decide +kernel
theorem dX5_span_1 : decode cX5_span 1 = .ok (.iconst 0, 1) := by decide +kernel
theorem dX5_span_2 : decode cX5_span 2 = .ok (.bipush 40, 2) := by decide +kernel
theorem dX5_span_4 : decode cX5_span 4 = .ok (.invokestatic 96, 3) := by decide +kernel
theorem dX5_span_7 : decode cX5_span 7 = .ok (.ifCond .ne 5, 3) := by decide +kernel
theorem dX5_span_10 : decode cX5_span 10 = .ok (.iconst (-1), 1) := by decide +kernel
theorem dX5_span_11 : decode cX5_span 11 = .ok (.ireturn, 1) := by decide +kernel
theorem dX5_span_12 : decode cX5_span 12 = .ok (.aload_n 0, 1) := by decide +kernel
theorem dX5_span_13 : decode cX5_span 13 = .ok (.getfield 90, 3) := by decide +kernel
theorem dX5_span_16 : decode cX5_span 16 = .ok (.istore_n 2, 1) := by decide +kernel
theorem dX5_span_17 : decode cX5_span 17 = .ok (.aload_n 0, 1) := by decide +kernel
theorem dX5_span_18 : decode cX5_span 18 = .ok (.iload_n 1, 1) := by decide +kernel
theorem dX5_span_19 : decode cX5_span 19 = .ok (.putfield 90, 3) := by decide +kernel
theorem dX5_span_22 : decode cX5_span 22 = .ok (.iload_n 2, 1) := by decide +kernel
theorem dX5_span_23 : decode cX5_span 23 = .ok (.ireturn, 1) := by decide +kernel
set_option maxRecDepth 20000 in
theorem ggX5_lose_X5_isStone : GoodIn wsX5_lose wsX5_isStone := goodIn_r _ [12, 1, 13, 14, 11, 15, 16, 17, 18, 19, 20, 21, 22, 23, 24, 25, 26, 27, 28, 29, 30, 31, 32, 33, 34, 35, 36, 37, 38, 39, 40, 41, 42, 43, 44, 45, 46, 47, 48, 49, 50, 51, 52, 53, 54, 55, 56, 57, 58, 59] (by decide +kernel) (by decide +kernel)
set_option maxRecDepth 20000 in
theorem gX5_lose_X5_isStone : GoodIn wsX5_lose (wsV RX5 190 RX5 yX5_isStone wsX5_isStone) := goodIn_app (goodIn_of _ (by decide +kernel)) ggX5_lose_X5_isStone
theorem dX5_lose_0 : decode cX5_lose 0 = .ok (.aload_n 0, 1) := by decide +kernel
theorem dX5_lose_1 : decode cX5_lose 1 = .ok (.iload_n 1, 1) := by decide +kernel
theorem dX5_lose_2 : decode cX5_lose 2 = .ok (.invokevirtual 190, 3) := by decide +kernel
theorem dX5_lose_5 : decode cX5_lose 5 = .ok (.ifCond .ne 5, 3) := by decide +kernel
theorem dX5_lose_8 : decode cX5_lose 8 = .ok (.iconst (-1), 1) := by decide +kernel
theorem dX5_lose_9 : decode cX5_lose 9 = .ok (.ireturn, 1) := by decide +kernel
theorem dX5_lose_10 : decode cX5_lose 10 = .ok (.iload_n 1, 1) := by decide +kernel
theorem dX5_lose_11 : decode cX5_lose 11 = .ok (.istore_n 2, 1) := by decide +kernel
theorem dX5_lose_12 : decode cX5_lose 12 = .ok (.iload_n 2, 1) := by decide +kernel
theorem dX5_lose_13 : decode cX5_lose 13 = .ok (.aload_n 0, 1) := by decide +kernel
theorem dX5_lose_14 : decode cX5_lose 14 = .ok (.getfield 187, 3) := by decide +kernel
theorem dX5_lose_17 : decode cX5_lose 17 = .ok (.iconst 1, 1) := by decide +kernel
theorem dX5_lose_18 : decode cX5_lose 18 = .ok (.isub, 1) := by decide +kernel
theorem dX5_lose_19 : decode cX5_lose 19 = .ok (.if_icmp .ge 104, 3) := by decide +kernel
theorem dX5_lose_22 : decode cX5_lose 22 = .ok (.aload_n 0, 1) := by decide +kernel
theorem dX5_lose_23 : decode cX5_lose 23 = .ok (.getfield 72, 3) := by decide +kernel
theorem dX5_lose_26 : decode cX5_lose 26 = .ok (.iload_n 2, 1) := by decide +kernel
theorem dX5_lose_27 : decode cX5_lose 27 = .ok (.aload_n 0, 1) := by decide +kernel
theorem dX5_lose_28 : decode cX5_lose 28 = .ok (.getfield 72, 3) := by decide +kernel
theorem dX5_lose_31 : decode cX5_lose 31 = .ok (.iload_n 2, 1) := by decide +kernel
theorem dX5_lose_32 : decode cX5_lose 32 = .ok (.iconst 1, 1) := by decide +kernel
theorem dX5_lose_33 : decode cX5_lose 33 = .ok (.iadd, 1) := by decide +kernel
theorem dX5_lose_34 : decode cX5_lose 34 = .ok (.iaload, 1) := by decide +kernel
theorem dX5_lose_35 : decode cX5_lose 35 = .ok (.iastore, 1) := by decide +kernel
theorem dX5_lose_36 : decode cX5_lose 36 = .ok (.aload_n 0, 1) := by decide +kernel
theorem dX5_lose_37 : decode cX5_lose 37 = .ok (.getfield 75, 3) := by decide +kernel
theorem dX5_lose_40 : decode cX5_lose 40 = .ok (.iload_n 2, 1) := by decide +kernel
theorem dX5_lose_41 : decode cX5_lose 41 = .ok (.aload_n 0, 1) := by decide +kernel
theorem dX5_lose_42 : decode cX5_lose 42 = .ok (.getfield 75, 3) := by decide +kernel
theorem dX5_lose_45 : decode cX5_lose 45 = .ok (.iload_n 2, 1) := by decide +kernel
theorem dX5_lose_46 : decode cX5_lose 46 = .ok (.iconst 1, 1) := by decide +kernel
theorem dX5_lose_47 : decode cX5_lose 47 = .ok (.iadd, 1) := by decide +kernel
theorem dX5_lose_48 : decode cX5_lose 48 = .ok (.iaload, 1) := by decide +kernel
theorem dX5_lose_49 : decode cX5_lose 49 = .ok (.iastore, 1) := by decide +kernel
theorem dX5_lose_50 : decode cX5_lose 50 = .ok (.aload_n 0, 1) := by decide +kernel
theorem dX5_lose_51 : decode cX5_lose 51 = .ok (.getfield 78, 3) := by decide +kernel
theorem dX5_lose_54 : decode cX5_lose 54 = .ok (.iload_n 2, 1) := by decide +kernel
theorem dX5_lose_55 : decode cX5_lose 55 = .ok (.aload_n 0, 1) := by decide +kernel
theorem dX5_lose_56 : decode cX5_lose 56 = .ok (.getfield 78, 3) := by decide +kernel
theorem dX5_lose_59 : decode cX5_lose 59 = .ok (.iload_n 2, 1) := by decide +kernel
theorem dX5_lose_60 : decode cX5_lose 60 = .ok (.iconst 1, 1) := by decide +kernel
theorem dX5_lose_61 : decode cX5_lose 61 = .ok (.iadd, 1) := by decide +kernel
theorem dX5_lose_62 : decode cX5_lose 62 = .ok (.iaload, 1) := by decide +kernel
theorem dX5_lose_63 : decode cX5_lose 63 = .ok (.iastore, 1) := by decide +kernel
theorem dX5_lose_64 : decode cX5_lose 64 = .ok (.aload_n 0, 1) := by decide +kernel
theorem dX5_lose_65 : decode cX5_lose 65 = .ok (.getfield 84, 3) := by decide +kernel
theorem dX5_lose_68 : decode cX5_lose 68 = .ok (.iload_n 2, 1) := by decide +kernel
theorem dX5_lose_69 : decode cX5_lose 69 = .ok (.aload_n 0, 1) := by decide +kernel
theorem dX5_lose_70 : decode cX5_lose 70 = .ok (.getfield 84, 3) := by decide +kernel
theorem dX5_lose_73 : decode cX5_lose 73 = .ok (.iload_n 2, 1) := by decide +kernel
theorem dX5_lose_74 : decode cX5_lose 74 = .ok (.iconst 1, 1) := by decide +kernel
theorem dX5_lose_75 : decode cX5_lose 75 = .ok (.iadd, 1) := by decide +kernel
theorem dX5_lose_76 : decode cX5_lose 76 = .ok (.iaload, 1) := by decide +kernel
theorem dX5_lose_77 : decode cX5_lose 77 = .ok (.iastore, 1) := by decide +kernel
theorem dX5_lose_78 : decode cX5_lose 78 = .ok (.iconst 0, 1) := by decide +kernel
theorem dX5_lose_79 : decode cX5_lose 79 = .ok (.istore_n 3, 1) := by decide +kernel
theorem dX5_lose_80 : decode cX5_lose 80 = .ok (.iload_n 3, 1) := by decide +kernel
theorem dX5_lose_81 : decode cX5_lose 81 = .ok (.bipush 8, 2) := by decide +kernel
theorem dX5_lose_83 : decode cX5_lose 83 = .ok (.if_icmp .ge 34, 3) := by decide +kernel
theorem dX5_lose_86 : decode cX5_lose 86 = .ok (.aload_n 0, 1) := by decide +kernel
theorem dX5_lose_87 : decode cX5_lose 87 = .ok (.getfield 81, 3) := by decide +kernel
theorem dX5_lose_90 : decode cX5_lose 90 = .ok (.bipush 8, 2) := by decide +kernel
theorem dX5_lose_92 : decode cX5_lose 92 = .ok (.iload_n 2, 1) := by decide +kernel
theorem dX5_lose_93 : decode cX5_lose 93 = .ok (.imul, 1) := by decide +kernel
theorem dX5_lose_94 : decode cX5_lose 94 = .ok (.iload_n 3, 1) := by decide +kernel
theorem dX5_lose_95 : decode cX5_lose 95 = .ok (.iadd, 1) := by decide +kernel
theorem dX5_lose_96 : decode cX5_lose 96 = .ok (.aload_n 0, 1) := by decide +kernel
theorem dX5_lose_97 : decode cX5_lose 97 = .ok (.getfield 81, 3) := by decide +kernel
theorem dX5_lose_100 : decode cX5_lose 100 = .ok (.bipush 8, 2) := by decide +kernel
theorem dX5_lose_102 : decode cX5_lose 102 = .ok (.iload_n 2, 1) := by decide +kernel
theorem dX5_lose_103 : decode cX5_lose 103 = .ok (.imul, 1) := by decide +kernel
theorem dX5_lose_104 : decode cX5_lose 104 = .ok (.bipush 8, 2) := by decide +kernel
theorem dX5_lose_106 : decode cX5_lose 106 = .ok (.iadd, 1) := by decide +kernel
theorem dX5_lose_107 : decode cX5_lose 107 = .ok (.iload_n 3, 1) := by decide +kernel
theorem dX5_lose_108 : decode cX5_lose 108 = .ok (.iadd, 1) := by decide +kernel
theorem dX5_lose_109 : decode cX5_lose 109 = .ok (.iaload, 1) := by decide +kernel
theorem dX5_lose_110 : decode cX5_lose 110 = .ok (.iastore, 1) := by decide +kernel
theorem dX5_lose_111 : decode cX5_lose 111 = .ok (.iinc 3 1, 3) := by decide +kernel
theorem dX5_lose_114 : decode cX5_lose 114 = .ok (.goto (-34), 3) := by decide +kernel
theorem dX5_lose_117 : decode cX5_lose 117 = .ok (.iinc 2 1, 3) := by decide +kernel
theorem dX5_lose_120 : decode cX5_lose 120 = .ok (.goto (-108), 3) := by decide +kernel
theorem dX5_lose_123 : decode cX5_lose 123 = .ok (.iconst 0, 1) := by decide +kernel
theorem dX5_lose_124 : decode cX5_lose 124 = .ok (.istore_n 2, 1) := by decide +kernel
theorem dX5_lose_125 : decode cX5_lose 125 = .ok (.iload_n 2, 1) := by decide +kernel
theorem dX5_lose_126 : decode cX5_lose 126 = .ok (.aload_n 0, 1) := by decide +kernel
theorem dX5_lose_127 : decode cX5_lose 127 = .ok (.getfield 187, 3) := by decide +kernel
theorem dX5_lose_130 : decode cX5_lose 130 = .ok (.iconst 1, 1) := by decide +kernel
theorem dX5_lose_131 : decode cX5_lose 131 = .ok (.isub, 1) := by decide +kernel
theorem dX5_lose_132 : decode cX5_lose 132 = .ok (.if_icmp .ge 71, 3) := by decide +kernel
theorem dX5_lose_135 : decode cX5_lose 135 = .ok (.iconst 0, 1) := by decide +kernel
theorem dX5_lose_136 : decode cX5_lose 136 = .ok (.istore_n 3, 1) := by decide +kernel
theorem dX5_lose_137 : decode cX5_lose 137 = .ok (.iload_n 3, 1) := by decide +kernel
theorem dX5_lose_138 : decode cX5_lose 138 = .ok (.aload_n 0, 1) := by decide +kernel
theorem dX5_lose_139 : decode cX5_lose 139 = .ok (.getfield 187, 3) := by decide +kernel
theorem dX5_lose_142 : decode cX5_lose 142 = .ok (.iconst 1, 1) := by decide +kernel
theorem dX5_lose_143 : decode cX5_lose 143 = .ok (.isub, 1) := by decide +kernel
theorem dX5_lose_144 : decode cX5_lose 144 = .ok (.if_icmp .ge 53, 3) := by decide +kernel
theorem dX5_lose_147 : decode cX5_lose 147 = .ok (.aload_n 0, 1) := by decide +kernel
theorem dX5_lose_148 : decode cX5_lose 148 = .ok (.getfield 87, 3) := by decide +kernel
theorem dX5_lose_151 : decode cX5_lose 151 = .ok (.bipush 6, 2) := by decide +kernel
theorem dX5_lose_153 : decode cX5_lose 153 = .ok (.iload_n 2, 1) := by decide +kernel
theorem dX5_lose_154 : decode cX5_lose 154 = .ok (.imul, 1) := by decide +kernel
theorem dX5_lose_155 : decode cX5_lose 155 = .ok (.iload_n 3, 1) := by decide +kernel
theorem dX5_lose_156 : decode cX5_lose 156 = .ok (.iadd, 1) := by decide +kernel
theorem dX5_lose_157 : decode cX5_lose 157 = .ok (.aload_n 0, 1) := by decide +kernel
theorem dX5_lose_158 : decode cX5_lose 158 = .ok (.getfield 87, 3) := by decide +kernel
theorem dX5_lose_161 : decode cX5_lose 161 = .ok (.bipush 6, 2) := by decide +kernel
theorem dX5_lose_163 : decode cX5_lose 163 = .ok (.iload_n 2, 1) := by decide +kernel
theorem dX5_lose_164 : decode cX5_lose 164 = .ok (.iload_n 1, 1) := by decide +kernel
theorem dX5_lose_165 : decode cX5_lose 165 = .ok (.if_icmp .ge 7, 3) := by decide +kernel
theorem dX5_lose_168 : decode cX5_lose 168 = .ok (.iload_n 2, 1) := by decide +kernel
theorem dX5_lose_169 : decode cX5_lose 169 = .ok (.goto 6, 3) := by decide +kernel
theorem dX5_lose_172 : decode cX5_lose 172 = .ok (.iload_n 2, 1) := by decide +kernel
theorem dX5_lose_173 : decode cX5_lose 173 = .ok (.iconst 1, 1) := by decide +kernel
theorem dX5_lose_174 : decode cX5_lose 174 = .ok (.iadd, 1) := by decide +kernel
theorem dX5_lose_175 : decode cX5_lose 175 = .ok (.imul, 1) := by decide +kernel
theorem dX5_lose_176 : decode cX5_lose 176 = .ok (.iload_n 3, 1) := by decide +kernel
theorem dX5_lose_177 : decode cX5_lose 177 = .ok (.iload_n 1, 1) := by decide +kernel
theorem dX5_lose_178 : decode cX5_lose 178 = .ok (.if_icmp .ge 7, 3) := by decide +kernel
theorem dX5_lose_181 : decode cX5_lose 181 = .ok (.iload_n 3, 1) := by decide +kernel
theorem dX5_lose_182 : decode cX5_lose 182 = .ok (.goto 6, 3) := by decide +kernel
theorem dX5_lose_185 : decode cX5_lose 185 = .ok (.iload_n 3, 1) := by decide +kernel
theorem dX5_lose_186 : decode cX5_lose 186 = .ok (.iconst 1, 1) := by decide +kernel
theorem dX5_lose_187 : decode cX5_lose 187 = .ok (.iadd, 1) := by decide +kernel
theorem dX5_lose_188 : decode cX5_lose 188 = .ok (.iadd, 1) := by decide +kernel
theorem dX5_lose_189 : decode cX5_lose 189 = .ok (.baload, 1) := by decide +kernel
theorem dX5_lose_190 : decode cX5_lose 190 = .ok (.bastore, 1) := by decide +kernel
theorem dX5_lose_191 : decode cX5_lose 191 = .ok (.iinc 3 1, 3) := by decide +kernel
theorem dX5_lose_194 : decode cX5_lose 194 = .ok (.goto (-57), 3) := by decide +kernel
theorem dX5_lose_197 : decode cX5_lose 197 = .ok (.iinc 2 1, 3) := by decide +kernel
theorem dX5_lose_200 : decode cX5_lose 200 = .ok (.goto (-75), 3) := by decide +kernel
theorem dX5_lose_203 : decode cX5_lose 203 = .ok (.aload_n 0, 1) := by decide +kernel
theorem dX5_lose_204 : decode cX5_lose 204 = .ok (.dup, 1) := by decide +kernel
theorem dX5_lose_205 : decode cX5_lose 205 = .ok (.getfield 187, 3) := by decide +kernel
theorem dX5_lose_208 : decode cX5_lose 208 = .ok (.iconst 1, 1) := by decide +kernel
theorem dX5_lose_209 : decode cX5_lose 209 = .ok (.isub, 1) := by decide +kernel
theorem dX5_lose_210 : decode cX5_lose 210 = .ok (.putfield 187, 3) := by decide +kernel
theorem dX5_lose_213 : decode cX5_lose 213 = .ok (.aload_n 0, 1) := by decide +kernel
theorem dX5_lose_214 : decode cX5_lose 214 = .ok (.getfield 187, 3) := by decide +kernel
theorem dX5_lose_217 : decode cX5_lose 217 = .ok (.ireturn, 1) := by decide +kernel
theorem dX5_doAgree_0 : decode cX5_doAgree 0 = .ok (.iconst 0, 1) := by decide +kernel
theorem dX5_doAgree_1 : decode cX5_doAgree 1 = .ok (.istore_n 3, 1) := by decide +kernel
theorem dX5_doAgree_2 : decode cX5_doAgree 2 = .ok (.iload_n 3, 1) := by decide +kernel
theorem dX5_doAgree_3 : decode cX5_doAgree 3 = .ok (.bipush 8, 2) := by decide +kernel
theorem dX5_doAgree_5 : decode cX5_doAgree 5 = .ok (.if_icmp .ge 54, 3) := by decide +kernel
theorem dX5_doAgree_8 : decode cX5_doAgree 8 = .ok (.aload_n 0, 1) := by decide +kernel
theorem dX5_doAgree_9 : decode cX5_doAgree 9 = .ok (.getfield 81, 3) := by decide +kernel
theorem dX5_doAgree_12 : decode cX5_doAgree 12 = .ok (.bipush 8, 2) := by decide +kernel
theorem dX5_doAgree_14 : decode cX5_doAgree 14 = .ok (.iload_n 1, 1) := by decide +kernel
theorem dX5_doAgree_15 : decode cX5_doAgree 15 = .ok (.imul, 1) := by decide +kernel
theorem dX5_doAgree_16 : decode cX5_doAgree 16 = .ok (.iload_n 3, 1) := by decide +kernel
theorem dX5_doAgree_17 : decode cX5_doAgree 17 = .ok (.iadd, 1) := by decide +kernel
theorem dX5_doAgree_18 : decode cX5_doAgree 18 = .ok (.iaload, 1) := by decide +kernel
theorem dX5_doAgree_19 : decode cX5_doAgree 19 = .ok (.istore 4, 2) := by decide +kernel
theorem dX5_doAgree_21 : decode cX5_doAgree 21 = .ok (.aload_n 0, 1) := by decide +kernel
theorem dX5_doAgree_22 : decode cX5_doAgree 22 = .ok (.getfield 81, 3) := by decide +kernel
theorem dX5_doAgree_25 : decode cX5_doAgree 25 = .ok (.bipush 8, 2) := by decide +kernel
theorem dX5_doAgree_27 : decode cX5_doAgree 27 = .ok (.iload_n 2, 1) := by decide +kernel
theorem dX5_doAgree_28 : decode cX5_doAgree 28 = .ok (.imul, 1) := by decide +kernel
theorem dX5_doAgree_29 : decode cX5_doAgree 29 = .ok (.iload_n 3, 1) := by decide +kernel
theorem dX5_doAgree_30 : decode cX5_doAgree 30 = .ok (.iadd, 1) := by decide +kernel
theorem dX5_doAgree_31 : decode cX5_doAgree 31 = .ok (.iaload, 1) := by decide +kernel
theorem dX5_doAgree_32 : decode cX5_doAgree 32 = .ok (.istore 5, 2) := by decide +kernel
theorem dX5_doAgree_34 : decode cX5_doAgree 34 = .ok (.iload 4, 2) := by decide +kernel
theorem dX5_doAgree_36 : decode cX5_doAgree 36 = .ok (.ifCond .le 17, 3) := by decide +kernel
theorem dX5_doAgree_39 : decode cX5_doAgree 39 = .ok (.iload 5, 2) := by decide +kernel
theorem dX5_doAgree_41 : decode cX5_doAgree 41 = .ok (.ifCond .le 12, 3) := by decide +kernel
theorem dX5_doAgree_44 : decode cX5_doAgree 44 = .ok (.iload 4, 2) := by decide +kernel
theorem dX5_doAgree_46 : decode cX5_doAgree 46 = .ok (.iload 5, 2) := by decide +kernel
theorem dX5_doAgree_48 : decode cX5_doAgree 48 = .ok (.if_icmp .eq 5, 3) := by decide +kernel
theorem dX5_doAgree_51 : decode cX5_doAgree 51 = .ok (.iconst 0, 1) := by decide +kernel
theorem dX5_doAgree_52 : decode cX5_doAgree 52 = .ok (.ireturn, 1) := by decide +kernel
theorem dX5_doAgree_53 : decode cX5_doAgree 53 = .ok (.iinc 3 1, 3) := by decide +kernel
theorem dX5_doAgree_56 : decode cX5_doAgree 56 = .ok (.goto (-54), 3) := by decide +kernel
theorem dX5_doAgree_59 : decode cX5_doAgree 59 = .ok (.aload_n 0, 1) := by decide +kernel
theorem dX5_doAgree_60 : decode cX5_doAgree 60 = .ok (.getfield 84, 3) := by decide +kernel
theorem dX5_doAgree_63 : decode cX5_doAgree 63 = .ok (.iload_n 1, 1) := by decide +kernel
theorem dX5_doAgree_64 : decode cX5_doAgree 64 = .ok (.iaload, 1) := by decide +kernel
theorem dX5_doAgree_65 : decode cX5_doAgree 65 = .ok (.iconst (-1), 1) := by decide +kernel
theorem dX5_doAgree_66 : decode cX5_doAgree 66 = .ok (.if_icmp .eq 28, 3) := by decide +kernel
theorem dX5_doAgree_69 : decode cX5_doAgree 69 = .ok (.aload_n 0, 1) := by decide +kernel
theorem dX5_doAgree_70 : decode cX5_doAgree 70 = .ok (.getfield 84, 3) := by decide +kernel
theorem dX5_doAgree_73 : decode cX5_doAgree 73 = .ok (.iload_n 2, 1) := by decide +kernel
theorem dX5_doAgree_74 : decode cX5_doAgree 74 = .ok (.iaload, 1) := by decide +kernel
theorem dX5_doAgree_75 : decode cX5_doAgree 75 = .ok (.iconst (-1), 1) := by decide +kernel
theorem dX5_doAgree_76 : decode cX5_doAgree 76 = .ok (.if_icmp .eq 18, 3) := by decide +kernel
theorem dX5_doAgree_79 : decode cX5_doAgree 79 = .ok (.aload_n 0, 1) := by decide +kernel
theorem dX5_doAgree_80 : decode cX5_doAgree 80 = .ok (.getfield 84, 3) := by decide +kernel
theorem dX5_doAgree_83 : decode cX5_doAgree 83 = .ok (.iload_n 1, 1) := by decide +kernel
theorem dX5_doAgree_84 : decode cX5_doAgree 84 = .ok (.iaload, 1) := by decide +kernel
theorem dX5_doAgree_85 : decode cX5_doAgree 85 = .ok (.aload_n 0, 1) := by decide +kernel
theorem dX5_doAgree_86 : decode cX5_doAgree 86 = .ok (.getfield 84, 3) := by decide +kernel
theorem dX5_doAgree_89 : decode cX5_doAgree 89 = .ok (.iload_n 2, 1) := by decide +kernel
theorem dX5_doAgree_90 : decode cX5_doAgree 90 = .ok (.iaload, 1) := by decide +kernel
theorem dX5_doAgree_91 : decode cX5_doAgree 91 = .ok (.if_icmp .ne 7, 3) := by decide +kernel
theorem dX5_doAgree_94 : decode cX5_doAgree 94 = .ok (.iconst 1, 1) := by decide +kernel
theorem dX5_doAgree_95 : decode cX5_doAgree 95 = .ok (.goto 4, 3) := by decide +kernel
theorem dX5_doAgree_98 : decode cX5_doAgree 98 = .ok (.iconst 0, 1) := by decide +kernel
theorem dX5_doAgree_99 : decode cX5_doAgree 99 = .ok (.ireturn, 1) := by decide +kernel
set_option maxRecDepth 20000 in
theorem ggX5_agree_X5_isStone : GoodIn wsX5_agree wsX5_isStone := goodIn_r _ [5, 6, 7, 8, 4, 9, 16, 17, 18, 19, 20, 21, 22, 23, 24, 25, 26, 27, 28, 29, 30, 31, 32, 33, 34, 35, 36, 37, 38, 39, 40, 41, 42, 43, 44, 45, 46, 47, 48, 49, 50, 51, 52, 53, 54, 55, 56, 57, 58, 59] (by decide +kernel) (by decide +kernel)
set_option maxRecDepth 20000 in
theorem gX5_agree_X5_isStone : GoodIn wsX5_agree (wsV RX5 190 RX5 yX5_isStone wsX5_isStone) := goodIn_app (goodIn_of _ (by decide +kernel)) ggX5_agree_X5_isStone
set_option maxRecDepth 20000 in
theorem ggX5_agree_X5_doAgree : GoodIn wsX5_agree wsX5_doAgree := goodIn_r _ [13, 14, 15, 16, 17, 18, 19, 20, 21, 22, 23, 24, 25, 26, 27, 28, 29, 30, 31, 32, 33, 34, 35, 36, 37, 38, 39, 40, 41, 42, 43, 44, 45, 46, 47, 48, 49, 50, 51, 52, 53, 54, 55, 56, 57, 58, 59] (by decide +kernel) (by decide +kernel)
set_option maxRecDepth 20000 in
theorem gX5_agree_X5_doAgree : GoodIn wsX5_agree (wsV RX5 193 RX5 yX5_doAgree wsX5_doAgree) := goodIn_app (goodIn_of _ (by decide +kernel)) ggX5_agree_X5_doAgree
theorem dX5_agree_0 : decode cX5_agree 0 = .ok (.aload_n 0, 1) := by decide +kernel
theorem dX5_agree_1 : decode cX5_agree 1 = .ok (.iload_n 1, 1) := by decide +kernel
theorem dX5_agree_2 : decode cX5_agree 2 = .ok (.invokevirtual 190, 3) := by decide +kernel
theorem dX5_agree_5 : decode cX5_agree 5 = .ok (.ifCond .eq 11, 3) := by decide +kernel
theorem dX5_agree_8 : decode cX5_agree 8 = .ok (.aload_n 0, 1) := by decide +kernel
theorem dX5_agree_9 : decode cX5_agree 9 = .ok (.iload_n 2, 1) := by decide +kernel
theorem dX5_agree_10 : decode cX5_agree 10 = .ok (.invokevirtual 190, 3) := by decide +kernel
theorem dX5_agree_13 : decode cX5_agree 13 = .ok (.ifCond .ne 5, 3) := by decide +kernel
theorem dX5_agree_16 : decode cX5_agree 16 = .ok (.iconst (-1), 1) := by decide +kernel
theorem dX5_agree_17 : decode cX5_agree 17 = .ok (.ireturn, 1) := by decide +kernel
theorem dX5_agree_18 : decode cX5_agree 18 = .ok (.aload_n 0, 1) := by decide +kernel
theorem dX5_agree_19 : decode cX5_agree 19 = .ok (.iload_n 1, 1) := by decide +kernel
theorem dX5_agree_20 : decode cX5_agree 20 = .ok (.iload_n 2, 1) := by decide +kernel
theorem dX5_agree_21 : decode cX5_agree 21 = .ok (.invokevirtual 193, 3) := by decide +kernel
theorem dX5_agree_24 : decode cX5_agree 24 = .ok (.ifCond .eq 7, 3) := by decide +kernel
theorem dX5_agree_27 : decode cX5_agree 27 = .ok (.iconst 1, 1) := by decide +kernel
theorem dX5_agree_28 : decode cX5_agree 28 = .ok (.goto 4, 3) := by decide +kernel
theorem dX5_agree_31 : decode cX5_agree 31 = .ok (.iconst 0, 1) := by decide +kernel
theorem dX5_agree_32 : decode cX5_agree 32 = .ok (.ireturn, 1) := by decide +kernel
theorem dX5_codes_0 : decode cX5_codes 0 = .ok (.iconst 1, 1) := by decide +kernel
theorem dX5_codes_1 : decode cX5_codes 1 = .ok (.istore_n 1, 1) := by decide +kernel
theorem dX5_codes_2 : decode cX5_codes 2 = .ok (.iconst 0, 1) := by decide +kernel
theorem dX5_codes_3 : decode cX5_codes 3 = .ok (.istore_n 2, 1) := by decide +kernel
theorem dX5_codes_4 : decode cX5_codes 4 = .ok (.iload_n 2, 1) := by decide +kernel
theorem dX5_codes_5 : decode cX5_codes 5 = .ok (.aload_n 0, 1) := by decide +kernel
theorem dX5_codes_6 : decode cX5_codes 6 = .ok (.getfield 187, 3) := by decide +kernel
theorem dX5_codes_9 : decode cX5_codes 9 = .ok (.if_icmp .ge 27, 3) := by decide +kernel
theorem dX5_codes_12 : decode cX5_codes 12 = .ok (.iload_n 1, 1) := by decide +kernel
theorem dX5_codes_13 : decode cX5_codes 13 = .ok (.aload_n 0, 1) := by decide +kernel
theorem dX5_codes_14 : decode cX5_codes 14 = .ok (.getfield 78, 3) := by decide +kernel
theorem dX5_codes_17 : decode cX5_codes 17 = .ok (.iload_n 2, 1) := by decide +kernel
theorem dX5_codes_18 : decode cX5_codes 18 = .ok (.iaload, 1) := by decide +kernel
theorem dX5_codes_19 : decode cX5_codes 19 = .ok (.aload_n 0, 1) := by decide +kernel
theorem dX5_codes_20 : decode cX5_codes 20 = .ok (.getfield 75, 3) := by decide +kernel
theorem dX5_codes_23 : decode cX5_codes 23 = .ok (.iload_n 2, 1) := by decide +kernel
theorem dX5_codes_24 : decode cX5_codes 24 = .ok (.iaload, 1) := by decide +kernel
theorem dX5_codes_25 : decode cX5_codes 25 = .ok (.isub, 1) := by decide +kernel
theorem dX5_codes_26 : decode cX5_codes 26 = .ok (.iconst 1, 1) := by decide +kernel
theorem dX5_codes_27 : decode cX5_codes 27 = .ok (.iadd, 1) := by decide +kernel
theorem dX5_codes_28 : decode cX5_codes 28 = .ok (.imul, 1) := by decide +kernel
theorem dX5_codes_29 : decode cX5_codes 29 = .ok (.istore_n 1, 1) := by decide +kernel
theorem dX5_codes_30 : decode cX5_codes 30 = .ok (.iinc 2 1, 3) := by decide +kernel
theorem dX5_codes_33 : decode cX5_codes 33 = .ok (.goto (-29), 3) := by decide +kernel
theorem dX5_codes_36 : decode cX5_codes 36 = .ok (.iload_n 1, 1) := by decide +kernel
theorem dX5_codes_37 : decode cX5_codes 37 = .ok (.ireturn, 1) := by decide +kernel
theorem dX5_yearOf_0 : decode cX5_yearOf 0 = .ok (.iload_n 1, 1) := by decide +kernel
theorem dX5_yearOf_1 : decode cX5_yearOf 1 = .ok (.istore_n 3, 1) := by decide +kernel
theorem dX5_yearOf_2 : decode cX5_yearOf 2 = .ok (.iconst 0, 1) := by decide +kernel
theorem dX5_yearOf_3 : decode cX5_yearOf 3 = .ok (.istore 4, 2) := by decide +kernel
theorem dX5_yearOf_5 : decode cX5_yearOf 5 = .ok (.iload 4, 2) := by decide +kernel
theorem dX5_yearOf_7 : decode cX5_yearOf 7 = .ok (.iload_n 2, 1) := by decide +kernel
theorem dX5_yearOf_8 : decode cX5_yearOf 8 = .ok (.if_icmp .ge 29, 3) := by decide +kernel
theorem dX5_yearOf_11 : decode cX5_yearOf 11 = .ok (.iload_n 3, 1) := by decide +kernel
theorem dX5_yearOf_12 : decode cX5_yearOf 12 = .ok (.aload_n 0, 1) := by decide +kernel
theorem dX5_yearOf_13 : decode cX5_yearOf 13 = .ok (.getfield 78, 3) := by decide +kernel
theorem dX5_yearOf_16 : decode cX5_yearOf 16 = .ok (.iload 4, 2) := by decide +kernel
theorem dX5_yearOf_18 : decode cX5_yearOf 18 = .ok (.iaload, 1) := by decide +kernel
theorem dX5_yearOf_19 : decode cX5_yearOf 19 = .ok (.aload_n 0, 1) := by decide +kernel
theorem dX5_yearOf_20 : decode cX5_yearOf 20 = .ok (.getfield 75, 3) := by decide +kernel
theorem dX5_yearOf_23 : decode cX5_yearOf 23 = .ok (.iload 4, 2) := by decide +kernel
theorem dX5_yearOf_25 : decode cX5_yearOf 25 = .ok (.iaload, 1) := by decide +kernel
theorem dX5_yearOf_26 : decode cX5_yearOf 26 = .ok (.isub, 1) := by decide +kernel
theorem dX5_yearOf_27 : decode cX5_yearOf 27 = .ok (.iconst 1, 1) := by decide +kernel
theorem dX5_yearOf_28 : decode cX5_yearOf 28 = .ok (.iadd, 1) := by decide +kernel
theorem dX5_yearOf_29 : decode cX5_yearOf 29 = .ok (.idiv, 1) := by decide +kernel
theorem dX5_yearOf_30 : decode cX5_yearOf 30 = .ok (.istore_n 3, 1) := by decide +kernel
theorem dX5_yearOf_31 : decode cX5_yearOf 31 = .ok (.iinc 4 1, 3) := by decide +kernel
theorem dX5_yearOf_34 : decode cX5_yearOf 34 = .ok (.goto (-29), 3) := by decide +kernel
theorem dX5_yearOf_37 : decode cX5_yearOf 37 = .ok (.aload_n 0, 1) := by decide +kernel
theorem dX5_yearOf_38 : decode cX5_yearOf 38 = .ok (.getfield 75, 3) := by decide +kernel
theorem dX5_yearOf_41 : decode cX5_yearOf 41 = .ok (.iload_n 2, 1) := by decide +kernel
theorem dX5_yearOf_42 : decode cX5_yearOf 42 = .ok (.iaload, 1) := by decide +kernel
theorem dX5_yearOf_43 : decode cX5_yearOf 43 = .ok (.iload_n 3, 1) := by decide +kernel
theorem dX5_yearOf_44 : decode cX5_yearOf 44 = .ok (.aload_n 0, 1) := by decide +kernel
theorem dX5_yearOf_45 : decode cX5_yearOf 45 = .ok (.getfield 78, 3) := by decide +kernel
theorem dX5_yearOf_48 : decode cX5_yearOf 48 = .ok (.iload_n 2, 1) := by decide +kernel
theorem dX5_yearOf_49 : decode cX5_yearOf 49 = .ok (.iaload, 1) := by decide +kernel
theorem dX5_yearOf_50 : decode cX5_yearOf 50 = .ok (.aload_n 0, 1) := by decide +kernel
theorem dX5_yearOf_51 : decode cX5_yearOf 51 = .ok (.getfield 75, 3) := by decide +kernel
theorem dX5_yearOf_54 : decode cX5_yearOf 54 = .ok (.iload_n 2, 1) := by decide +kernel
theorem dX5_yearOf_55 : decode cX5_yearOf 55 = .ok (.iaload, 1) := by decide +kernel
theorem dX5_yearOf_56 : decode cX5_yearOf 56 = .ok (.isub, 1) := by decide +kernel
theorem dX5_yearOf_57 : decode cX5_yearOf 57 = .ok (.iconst 1, 1) := by decide +kernel
theorem dX5_yearOf_58 : decode cX5_yearOf 58 = .ok (.iadd, 1) := by decide +kernel
theorem dX5_yearOf_59 : decode cX5_yearOf 59 = .ok (.irem, 1) := by decide +kernel
theorem dX5_yearOf_60 : decode cX5_yearOf 60 = .ok (.iadd, 1) := by decide +kernel
theorem dX5_yearOf_61 : decode cX5_yearOf 61 = .ok (.ireturn, 1) := by decide +kernel
set_option maxRecDepth 20000 in
theorem ggX5_isRoll_X5_yearOf : GoodIn wsX5_isRoll wsX5_yearOf := goodIn_r _ [10, 11, 2, 18, 19, 20, 21, 22, 23, 24, 25, 26, 27, 28, 29, 30, 31, 32, 33, 34, 35, 36, 37, 38, 39, 40, 41, 42, 43, 44, 45, 46, 47, 48, 49, 50, 51, 52, 53, 54, 55, 56, 57, 58, 59, 60, 61] (by decide +kernel) (by decide +kernel)
set_option maxRecDepth 20000 in
theorem gX5_isRoll_X5_yearOf : GoodIn wsX5_isRoll (wsV RX5 196 RX5 yX5_yearOf wsX5_yearOf) := goodIn_app (goodIn_of _ (by decide +kernel)) ggX5_isRoll_X5_yearOf
set_option maxRecDepth 20000 in
theorem ggX5_isRoll_X5_doAgree : GoodIn wsX5_isRoll wsX5_doAgree := goodIn_r _ [15, 16, 17, 18, 19, 20, 21, 22, 23, 24, 25, 26, 27, 28, 29, 30, 31, 32, 33, 34, 35, 36, 37, 38, 39, 40, 41, 42, 43, 44, 45, 46, 47, 48, 49, 50, 51, 52, 53, 54, 55, 56, 57, 58, 59, 60, 61] (by decide +kernel) (by decide +kernel)
set_option maxRecDepth 20000 in
theorem gX5_isRoll_X5_doAgree : GoodIn wsX5_isRoll (wsV RX5 193 RX5 yX5_doAgree wsX5_doAgree) := goodIn_app (goodIn_of _ (by decide +kernel)) ggX5_isRoll_X5_doAgree
theorem dX5_isRoll_0 : decode cX5_isRoll 0 = .ok (.iconst 0, 1) := by decide +kernel
theorem dX5_isRoll_1 : decode cX5_isRoll 1 = .ok (.istore_n 3, 1) := by decide +kernel
theorem dX5_isRoll_2 : decode cX5_isRoll 2 = .ok (.iload_n 3, 1) := by decide +kernel
theorem dX5_isRoll_3 : decode cX5_isRoll 3 = .ok (.aload_n 0, 1) := by decide +kernel
theorem dX5_isRoll_4 : decode cX5_isRoll 4 = .ok (.getfield 187, 3) := by decide +kernel
theorem dX5_isRoll_7 : decode cX5_isRoll 7 = .ok (.if_icmp .ge 35, 3) := by decide +kernel
theorem dX5_isRoll_10 : decode cX5_isRoll 10 = .ok (.iload_n 2, 1) := by decide +kernel
theorem dX5_isRoll_11 : decode cX5_isRoll 11 = .ok (.iload_n 3, 1) := by decide +kernel
theorem dX5_isRoll_12 : decode cX5_isRoll 12 = .ok (.ishr, 1) := by decide +kernel
theorem dX5_isRoll_13 : decode cX5_isRoll 13 = .ok (.iconst 1, 1) := by decide +kernel
theorem dX5_isRoll_14 : decode cX5_isRoll 14 = .ok (.iand, 1) := by decide +kernel
theorem dX5_isRoll_15 : decode cX5_isRoll 15 = .ok (.iconst 1, 1) := by decide +kernel
theorem dX5_isRoll_16 : decode cX5_isRoll 16 = .ok (.if_icmp .ne 20, 3) := by decide +kernel
theorem dX5_isRoll_19 : decode cX5_isRoll 19 = .ok (.aload_n 0, 1) := by decide +kernel
theorem dX5_isRoll_20 : decode cX5_isRoll 20 = .ok (.iload_n 1, 1) := by decide +kernel
theorem dX5_isRoll_21 : decode cX5_isRoll 21 = .ok (.iload_n 3, 1) := by decide +kernel
theorem dX5_isRoll_22 : decode cX5_isRoll 22 = .ok (.invokevirtual 196, 3) := by decide +kernel
theorem dX5_isRoll_25 : decode cX5_isRoll 25 = .ok (.aload_n 0, 1) := by decide +kernel
theorem dX5_isRoll_26 : decode cX5_isRoll 26 = .ok (.getfield 75, 3) := by decide +kernel
theorem dX5_isRoll_29 : decode cX5_isRoll 29 = .ok (.iload_n 3, 1) := by decide +kernel
theorem dX5_isRoll_30 : decode cX5_isRoll 30 = .ok (.iaload, 1) := by decide +kernel
theorem dX5_isRoll_31 : decode cX5_isRoll 31 = .ok (.if_icmp .eq 5, 3) := by decide +kernel
theorem dX5_isRoll_34 : decode cX5_isRoll 34 = .ok (.iconst 0, 1) := by decide +kernel
theorem dX5_isRoll_35 : decode cX5_isRoll 35 = .ok (.ireturn, 1) := by decide +kernel
theorem dX5_isRoll_36 : decode cX5_isRoll 36 = .ok (.iinc 3 1, 3) := by decide +kernel
theorem dX5_isRoll_39 : decode cX5_isRoll 39 = .ok (.goto (-37), 3) := by decide +kernel
theorem dX5_isRoll_42 : decode cX5_isRoll 42 = .ok (.iconst 0, 1) := by decide +kernel
theorem dX5_isRoll_43 : decode cX5_isRoll 43 = .ok (.istore_n 3, 1) := by decide +kernel
theorem dX5_isRoll_44 : decode cX5_isRoll 44 = .ok (.iload_n 3, 1) := by decide +kernel
theorem dX5_isRoll_45 : decode cX5_isRoll 45 = .ok (.aload_n 0, 1) := by decide +kernel
theorem dX5_isRoll_46 : decode cX5_isRoll 46 = .ok (.getfield 187, 3) := by decide +kernel
theorem dX5_isRoll_49 : decode cX5_isRoll 49 = .ok (.if_icmp .ge 156, 3) := by decide +kernel
theorem dX5_isRoll_52 : decode cX5_isRoll 52 = .ok (.iload_n 2, 1) := by decide +kernel
theorem dX5_isRoll_53 : decode cX5_isRoll 53 = .ok (.iload_n 3, 1) := by decide +kernel
theorem dX5_isRoll_54 : decode cX5_isRoll 54 = .ok (.ishr, 1) := by decide +kernel
theorem dX5_isRoll_55 : decode cX5_isRoll 55 = .ok (.iconst 1, 1) := by decide +kernel
theorem dX5_isRoll_56 : decode cX5_isRoll 56 = .ok (.iand, 1) := by decide +kernel
theorem dX5_isRoll_57 : decode cX5_isRoll 57 = .ok (.iconst 1, 1) := by decide +kernel
theorem dX5_isRoll_58 : decode cX5_isRoll 58 = .ok (.if_icmp .ne 6, 3) := by decide +kernel
theorem dX5_isRoll_61 : decode cX5_isRoll 61 = .ok (.goto 138, 3) := by decide +kernel
theorem dX5_isRoll_64 : decode cX5_isRoll 64 = .ok (.iload_n 3, 1) := by decide +kernel
theorem dX5_isRoll_65 : decode cX5_isRoll 65 = .ok (.iconst 1, 1) := by decide +kernel
theorem dX5_isRoll_66 : decode cX5_isRoll 66 = .ok (.iadd, 1) := by decide +kernel
theorem dX5_isRoll_67 : decode cX5_isRoll 67 = .ok (.istore 4, 2) := by decide +kernel
theorem dX5_isRoll_69 : decode cX5_isRoll 69 = .ok (.iload 4, 2) := by decide +kernel
theorem dX5_isRoll_71 : decode cX5_isRoll 71 = .ok (.aload_n 0, 1) := by decide +kernel
theorem dX5_isRoll_72 : decode cX5_isRoll 72 = .ok (.getfield 187, 3) := by decide +kernel
theorem dX5_isRoll_75 : decode cX5_isRoll 75 = .ok (.if_icmp .ge 124, 3) := by decide +kernel
theorem dX5_isRoll_78 : decode cX5_isRoll 78 = .ok (.iload_n 2, 1) := by decide +kernel
theorem dX5_isRoll_79 : decode cX5_isRoll 79 = .ok (.iload 4, 2) := by decide +kernel
theorem dX5_isRoll_81 : decode cX5_isRoll 81 = .ok (.ishr, 1) := by decide +kernel
theorem dX5_isRoll_82 : decode cX5_isRoll 82 = .ok (.iconst 1, 1) := by decide +kernel
theorem dX5_isRoll_83 : decode cX5_isRoll 83 = .ok (.iand, 1) := by decide +kernel
theorem dX5_isRoll_84 : decode cX5_isRoll 84 = .ok (.iconst 1, 1) := by decide +kernel
theorem dX5_isRoll_85 : decode cX5_isRoll 85 = .ok (.if_icmp .ne 6, 3) := by decide +kernel
theorem dX5_isRoll_88 : decode cX5_isRoll 88 = .ok (.goto 105, 3) := by decide +kernel
theorem dX5_isRoll_91 : decode cX5_isRoll 91 = .ok (.aload_n 0, 1) := by decide +kernel
theorem dX5_isRoll_92 : decode cX5_isRoll 92 = .ok (.iload_n 1, 1) := by decide +kernel
theorem dX5_isRoll_93 : decode cX5_isRoll 93 = .ok (.iload_n 3, 1) := by decide +kernel
theorem dX5_isRoll_94 : decode cX5_isRoll 94 = .ok (.invokevirtual 196, 3) := by decide +kernel
theorem dX5_isRoll_97 : decode cX5_isRoll 97 = .ok (.istore 5, 2) := by decide +kernel
theorem dX5_isRoll_99 : decode cX5_isRoll 99 = .ok (.aload_n 0, 1) := by decide +kernel
theorem dX5_isRoll_100 : decode cX5_isRoll 100 = .ok (.iload_n 1, 1) := by decide +kernel
theorem dX5_isRoll_101 : decode cX5_isRoll 101 = .ok (.iload 4, 2) := by decide +kernel
theorem dX5_isRoll_103 : decode cX5_isRoll 103 = .ok (.invokevirtual 196, 3) := by decide +kernel
theorem dX5_isRoll_106 : decode cX5_isRoll 106 = .ok (.istore 6, 2) := by decide +kernel
theorem dX5_isRoll_108 : decode cX5_isRoll 108 = .ok (.aload_n 0, 1) := by decide +kernel
theorem dX5_isRoll_109 : decode cX5_isRoll 109 = .ok (.getfield 87, 3) := by decide +kernel
theorem dX5_isRoll_112 : decode cX5_isRoll 112 = .ok (.bipush 6, 2) := by decide +kernel
theorem dX5_isRoll_114 : decode cX5_isRoll 114 = .ok (.iload_n 3, 1) := by decide +kernel
theorem dX5_isRoll_115 : decode cX5_isRoll 115 = .ok (.imul, 1) := by decide +kernel
theorem dX5_isRoll_116 : decode cX5_isRoll 116 = .ok (.iload 4, 2) := by decide +kernel
theorem dX5_isRoll_118 : decode cX5_isRoll 118 = .ok (.iadd, 1) := by decide +kernel
theorem dX5_isRoll_119 : decode cX5_isRoll 119 = .ok (.baload, 1) := by decide +kernel
theorem dX5_isRoll_120 : decode cX5_isRoll 120 = .ok (.istore 7, 2) := by decide +kernel
theorem dX5_isRoll_122 : decode cX5_isRoll 122 = .ok (.iload 7, 2) := by decide +kernel
theorem dX5_isRoll_124 : decode cX5_isRoll 124 = .ok (.ifCond .eq 29, 3) := by decide +kernel
theorem dX5_isRoll_127 : decode cX5_isRoll 127 = .ok (.iload 5, 2) := by decide +kernel
theorem dX5_isRoll_129 : decode cX5_isRoll 129 = .ok (.iload 6, 2) := by decide +kernel
theorem dX5_isRoll_131 : decode cX5_isRoll 131 = .ok (.isub, 1) := by decide +kernel
theorem dX5_isRoll_132 : decode cX5_isRoll 132 = .ok (.aload_n 0, 1) := by decide +kernel
theorem dX5_isRoll_133 : decode cX5_isRoll 133 = .ok (.getfield 90, 3) := by decide +kernel
theorem dX5_isRoll_136 : decode cX5_isRoll 136 = .ok (.if_icmp .gt 15, 3) := by decide +kernel
theorem dX5_isRoll_139 : decode cX5_isRoll 139 = .ok (.iload 6, 2) := by decide +kernel
theorem dX5_isRoll_141 : decode cX5_isRoll 141 = .ok (.iload 5, 2) := by decide +kernel
theorem dX5_isRoll_143 : decode cX5_isRoll 143 = .ok (.isub, 1) := by decide +kernel
theorem dX5_isRoll_144 : decode cX5_isRoll 144 = .ok (.aload_n 0, 1) := by decide +kernel
theorem dX5_isRoll_145 : decode cX5_isRoll 145 = .ok (.getfield 90, 3) := by decide +kernel
theorem dX5_isRoll_148 : decode cX5_isRoll 148 = .ok (.if_icmp .le 5, 3) := by decide +kernel
theorem dX5_isRoll_151 : decode cX5_isRoll 151 = .ok (.iconst 0, 1) := by decide +kernel
theorem dX5_isRoll_152 : decode cX5_isRoll 152 = .ok (.ireturn, 1) := by decide +kernel
theorem dX5_isRoll_153 : decode cX5_isRoll 153 = .ok (.iload 7, 2) := by decide +kernel
theorem dX5_isRoll_155 : decode cX5_isRoll 155 = .ok (.ifCond .ne 26, 3) := by decide +kernel
theorem dX5_isRoll_158 : decode cX5_isRoll 158 = .ok (.aload_n 0, 1) := by decide +kernel
theorem dX5_isRoll_159 : decode cX5_isRoll 159 = .ok (.getfield 72, 3) := by decide +kernel
theorem dX5_isRoll_162 : decode cX5_isRoll 162 = .ok (.iload_n 3, 1) := by decide +kernel
theorem dX5_isRoll_163 : decode cX5_isRoll 163 = .ok (.iaload, 1) := by decide +kernel
theorem dX5_isRoll_164 : decode cX5_isRoll 164 = .ok (.aload_n 0, 1) := by decide +kernel
theorem dX5_isRoll_165 : decode cX5_isRoll 165 = .ok (.getfield 72, 3) := by decide +kernel
theorem dX5_isRoll_168 : decode cX5_isRoll 168 = .ok (.iload 4, 2) := by decide +kernel
theorem dX5_isRoll_170 : decode cX5_isRoll 170 = .ok (.iaload, 1) := by decide +kernel
theorem dX5_isRoll_171 : decode cX5_isRoll 171 = .ok (.if_icmp .ne 22, 3) := by decide +kernel
theorem dX5_isRoll_174 : decode cX5_isRoll 174 = .ok (.iload 5, 2) := by decide +kernel
theorem dX5_isRoll_176 : decode cX5_isRoll 176 = .ok (.iload 6, 2) := by decide +kernel
theorem dX5_isRoll_178 : decode cX5_isRoll 178 = .ok (.if_icmp .ne 15, 3) := by decide +kernel
theorem dX5_isRoll_181 : decode cX5_isRoll 181 = .ok (.aload_n 0, 1) := by decide +kernel
theorem dX5_isRoll_182 : decode cX5_isRoll 182 = .ok (.iload_n 3, 1) := by decide +kernel
theorem dX5_isRoll_183 : decode cX5_isRoll 183 = .ok (.iload 4, 2) := by decide +kernel
theorem dX5_isRoll_185 : decode cX5_isRoll 185 = .ok (.invokevirtual 193, 3) := by decide +kernel
theorem dX5_isRoll_188 : decode cX5_isRoll 188 = .ok (.ifCond .ne 5, 3) := by decide +kernel
theorem dX5_isRoll_191 : decode cX5_isRoll 191 = .ok (.iconst 0, 1) := by decide +kernel
theorem dX5_isRoll_192 : decode cX5_isRoll 192 = .ok (.ireturn, 1) := by decide +kernel
theorem dX5_isRoll_193 : decode cX5_isRoll 193 = .ok (.iinc 4 1, 3) := by decide +kernel
theorem dX5_isRoll_196 : decode cX5_isRoll 196 = .ok (.goto (-127), 3) := by decide +kernel
theorem dX5_isRoll_199 : decode cX5_isRoll 199 = .ok (.iinc 3 1, 3) := by decide +kernel
theorem dX5_isRoll_202 : decode cX5_isRoll 202 = .ok (.goto (-158), 3) := by decide +kernel
theorem dX5_isRoll_205 : decode cX5_isRoll 205 = .ok (.iconst 1, 1) := by decide +kernel
theorem dX5_isRoll_206 : decode cX5_isRoll 206 = .ok (.ireturn, 1) := by decide +kernel
set_option maxRecDepth 20000 in
theorem ggX5_rolls_X5_codes : GoodIn wsX5_rolls wsX5_codes := goodIn_r _ [5, 6, 7, 8, 26, 27, 28, 29, 30, 31, 32, 33, 34, 35, 36, 37, 38, 39, 40, 41, 42, 43, 44, 45, 46, 47, 48, 49, 50, 51, 52, 53, 54, 55, 56, 57, 58, 59, 60, 61, 62, 63, 64, 65, 66, 67, 68, 69] (by decide +kernel) (by decide +kernel)
set_option maxRecDepth 20000 in
theorem gX5_rolls_X5_codes : GoodIn wsX5_rolls (wsV RX5 200 RX5 yX5_codes wsX5_codes) := goodIn_app (goodIn_of _ (by decide +kernel)) ggX5_rolls_X5_codes
set_option maxRecDepth 20000 in
theorem ggX5_rolls_X5_isRoll : GoodIn wsX5_rolls wsX5_isRoll := goodIn_r _ [12, 6, 8, 13, 14, 15, 16, 17, 18, 4, 19, 7, 20, 21, 22, 23, 24, 25, 26, 27, 28, 29, 30, 31, 32, 33, 34, 35, 36, 37, 38, 39, 40, 41, 42, 43, 44, 45, 46, 47, 48, 49, 50, 51, 52, 53, 54, 55, 56, 57, 58, 59, 60, 61, 62, 63, 64, 65, 66, 67, 68, 69] (by decide +kernel) (by decide +kernel)
set_option maxRecDepth 20000 in
theorem gX5_rolls_X5_isRoll : GoodIn wsX5_rolls (wsV RX5 203 RX5 yX5_isRoll wsX5_isRoll) := goodIn_app (goodIn_of _ (by decide +kernel)) ggX5_rolls_X5_isRoll
theorem dX5_rolls_0 : decode cX5_rolls 0 = .ok (.iconst 0, 1) := by decide +kernel
theorem dX5_rolls_1 : decode cX5_rolls 1 = .ok (.istore_n 1, 1) := by decide +kernel
theorem dX5_rolls_2 : decode cX5_rolls 2 = .ok (.iconst 0, 1) := by decide +kernel
theorem dX5_rolls_3 : decode cX5_rolls 3 = .ok (.istore_n 2, 1) := by decide +kernel
theorem dX5_rolls_4 : decode cX5_rolls 4 = .ok (.iload_n 2, 1) := by decide +kernel
theorem dX5_rolls_5 : decode cX5_rolls 5 = .ok (.aload_n 0, 1) := by decide +kernel
theorem dX5_rolls_6 : decode cX5_rolls 6 = .ok (.invokevirtual 200, 3) := by decide +kernel
theorem dX5_rolls_9 : decode cX5_rolls 9 = .ok (.if_icmp .ge 21, 3) := by decide +kernel
theorem dX5_rolls_12 : decode cX5_rolls 12 = .ok (.aload_n 0, 1) := by decide +kernel
theorem dX5_rolls_13 : decode cX5_rolls 13 = .ok (.iload_n 2, 1) := by decide +kernel
theorem dX5_rolls_14 : decode cX5_rolls 14 = .ok (.iconst 0, 1) := by decide +kernel
theorem dX5_rolls_15 : decode cX5_rolls 15 = .ok (.invokevirtual 203, 3) := by decide +kernel
theorem dX5_rolls_18 : decode cX5_rolls 18 = .ok (.ifCond .eq 6, 3) := by decide +kernel
theorem dX5_rolls_21 : decode cX5_rolls 21 = .ok (.iinc 1 1, 3) := by decide +kernel
theorem dX5_rolls_24 : decode cX5_rolls 24 = .ok (.iinc 2 1, 3) := by decide +kernel
theorem dX5_rolls_27 : decode cX5_rolls 27 = .ok (.goto (-23), 3) := by decide +kernel
theorem dX5_rolls_30 : decode cX5_rolls 30 = .ok (.iload_n 1, 1) := by decide +kernel
theorem dX5_rolls_31 : decode cX5_rolls 31 = .ok (.ireturn, 1) := by decide +kernel
set_option maxRecDepth 20000 in
theorem ggX5_year_X5_isStone : GoodIn wsX5_year wsX5_isStone := goodIn_r _ [5, 6, 7, 8, 4, 9, 54, 55, 56, 57, 58, 59, 60, 61, 62, 63, 64, 65, 66, 67, 68, 69, 70, 71, 72, 73, 74, 75, 76, 77, 78, 79, 80, 81, 82, 83, 84, 85, 86, 87, 88, 89, 90, 91, 92, 93, 94, 95, 96, 97] (by decide +kernel) (by decide +kernel)
set_option maxRecDepth 20000 in
theorem gX5_year_X5_isStone : GoodIn wsX5_year (wsV RX5 190 RX5 yX5_isStone wsX5_isStone) := goodIn_app (goodIn_of _ (by decide +kernel)) ggX5_year_X5_isStone
set_option maxRecDepth 20000 in
theorem ggX5_year_X5_in : GoodIn wsX5_year wsX5_in := goodIn_r _ [9] (by decide +kernel) (by decide +kernel)
set_option maxRecDepth 20000 in
theorem gX5_year_X5_in : GoodIn wsX5_year (va_wsS RX5 96 yX5_in wsX5_in) := goodIn_app (goodIn_of _ (by decide +kernel)) ggX5_year_X5_in
set_option maxRecDepth 20000 in
theorem ggX5_year_X5_codes : GoodIn wsX5_year wsX5_codes := goodIn_r _ [13, 6, 14, 15, 54, 55, 56, 57, 58, 59, 60, 61, 62, 63, 64, 65, 66, 67, 68, 69, 70, 71, 72, 73, 74, 75, 76, 77, 78, 79, 80, 81, 82, 83, 84, 85, 86, 87, 88, 89, 90, 91, 92, 93, 94, 95, 96, 97] (by decide +kernel) (by decide +kernel)
set_option maxRecDepth 20000 in
theorem gX5_year_X5_codes : GoodIn wsX5_year (wsV RX5 200 RX5 yX5_codes wsX5_codes) := goodIn_app (goodIn_of _ (by decide +kernel)) ggX5_year_X5_codes
set_option maxRecDepth 20000 in
theorem ggX5_year_X5_isRoll : GoodIn wsX5_year wsX5_isRoll := goodIn_r _ [19, 6, 15, 20, 21, 22, 23, 24, 25, 4, 26, 14, 27, 28, 29, 30, 31, 32, 54, 55, 56, 57, 58, 59, 60, 61, 62, 63, 64, 65, 66, 67, 68, 69, 70, 71, 72, 73, 74, 75, 76, 77, 78, 79, 80, 81, 82, 83, 84, 85, 86, 87, 88, 89, 90, 91, 92, 93, 94, 95, 96, 97] (by decide +kernel) (by decide +kernel)
set_option maxRecDepth 20000 in
theorem gX5_year_X5_isRoll : GoodIn wsX5_year (wsV RX5 203 RX5 yX5_isRoll wsX5_isRoll) := goodIn_app (goodIn_of _ (by decide +kernel)) ggX5_year_X5_isRoll
set_option maxRecDepth 20000 in
theorem ggX5_year_X5_yearOf : GoodIn wsX5_year wsX5_yearOf := goodIn_r _ [26, 14, 15, 54, 55, 56, 57, 58, 59, 60, 61, 62, 63, 64, 65, 66, 67, 68, 69, 70, 71, 72, 73, 74, 75, 76, 77, 78, 79, 80, 81, 82, 83, 84, 85, 86, 87, 88, 89, 90, 91, 92, 93, 94, 95, 96, 97] (by decide +kernel) (by decide +kernel)
set_option maxRecDepth 20000 in
theorem gX5_year_X5_yearOf : GoodIn wsX5_year (wsV RX5 196 RX5 yX5_yearOf wsX5_yearOf) := goodIn_app (goodIn_of _ (by decide +kernel)) ggX5_year_X5_yearOf
set_option maxRecDepth 20000 in
theorem ggX5_year_J13_numberOfTrailingZeros_95d88 : GoodIn wsX5_year wsJ13_numberOfTrailingZeros_95d88 := goodIn_r _ [36, 37, 38, 39, 40, 41] (by decide +kernel) (by decide +kernel)
set_option maxRecDepth 20000 in
theorem gX5_year_J13_numberOfTrailingZeros_95d88 : GoodIn wsX5_year (va_wsS RX5 206 yJ13_numberOfTrailingZeros_95d88 wsJ13_numberOfTrailingZeros_95d88) := goodIn_app (goodIn_of _ (by decide +kernel)) ggX5_year_J13_numberOfTrailingZeros_95d88
set_option maxRecDepth 20000 in
theorem ggX5_year_J13_numberOfLeadingZeros_95d88 : GoodIn wsX5_year wsJ13_numberOfLeadingZeros_95d88 := goodIn_r _ [44, 45, 46, 39, 47, 41] (by decide +kernel) (by decide +kernel)
set_option maxRecDepth 20000 in
theorem gX5_year_J13_numberOfLeadingZeros_95d88 : GoodIn wsX5_year (va_wsS RX5 212 yJ13_numberOfLeadingZeros_95d88 wsJ13_numberOfLeadingZeros_95d88) := goodIn_app (goodIn_of _ (by decide +kernel)) ggX5_year_J13_numberOfLeadingZeros_95d88
set_option maxRecDepth 20000 in
theorem ggX5_year_J13_bitCount_95d88 : GoodIn wsX5_year wsJ13_bitCount_95d88 := goodIn_r _ [50, 51, 52, 53] (by decide +kernel) (by decide +kernel)
set_option maxRecDepth 20000 in
theorem gX5_year_J13_bitCount_95d88 : GoodIn wsX5_year (va_wsS RX5 215 yJ13_bitCount_95d88 wsJ13_bitCount_95d88) := goodIn_app (goodIn_of _ (by decide +kernel)) ggX5_year_J13_bitCount_95d88
theorem dX5_year_0 : decode cX5_year 0 = .ok (.aload_n 0, 1) := by decide +kernel
theorem dX5_year_1 : decode cX5_year 1 = .ok (.iload_n 1, 1) := by decide +kernel
theorem dX5_year_2 : decode cX5_year 2 = .ok (.invokevirtual 190, 3) := by decide +kernel
theorem dX5_year_5 : decode cX5_year 5 = .ok (.ifCond .eq 12, 3) := by decide +kernel
theorem dX5_year_8 : decode cX5_year 8 = .ok (.iload_n 2, 1) := by decide +kernel
theorem dX5_year_9 : decode cX5_year 9 = .ok (.iconst 0, 1) := by decide +kernel
theorem dX5_year_10 : decode cX5_year 10 = .ok (.iconst 2, 1) := by decide +kernel
theorem dX5_year_11 : decode cX5_year 11 = .ok (.invokestatic 96, 3) := by decide +kernel
theorem dX5_year_14 : decode cX5_year 14 = .ok (.ifCond .ne 5, 3) := by decide +kernel
theorem dX5_year_17 : decode cX5_year 17 = .ok (.iconst (-1), 1) := by decide +kernel
theorem dX5_year_18 : decode cX5_year 18 = .ok (.ireturn, 1) := by decide +kernel
theorem dX5_year_19 : decode cX5_year 19 = .ok (.lconst 0, 1) := by decide +kernel
theorem dX5_year_20 : decode cX5_year 20 = .ok (.lstore_n 3, 1) := by decide +kernel
theorem dX5_year_21 : decode cX5_year 21 = .ok (.aload_n 0, 1) := by decide +kernel
theorem dX5_year_22 : decode cX5_year 22 = .ok (.invokevirtual 200, 3) := by decide +kernel
theorem dX5_year_25 : decode cX5_year 25 = .ok (.istore 5, 2) := by decide +kernel
theorem dX5_year_27 : decode cX5_year 27 = .ok (.iconst 0, 1) := by decide +kernel
theorem dX5_year_28 : decode cX5_year 28 = .ok (.istore 6, 2) := by decide +kernel
theorem dX5_year_30 : decode cX5_year 30 = .ok (.iload 6, 2) := by decide +kernel
theorem dX5_year_32 : decode cX5_year 32 = .ok (.iload 5, 2) := by decide +kernel
theorem dX5_year_34 : decode cX5_year 34 = .ok (.if_icmp .ge 31, 3) := by decide +kernel
theorem dX5_year_37 : decode cX5_year 37 = .ok (.aload_n 0, 1) := by decide +kernel
theorem dX5_year_38 : decode cX5_year 38 = .ok (.iload 6, 2) := by decide +kernel
theorem dX5_year_40 : decode cX5_year 40 = .ok (.iconst 0, 1) := by decide +kernel
theorem dX5_year_41 : decode cX5_year 41 = .ok (.invokevirtual 203, 3) := by decide +kernel
theorem dX5_year_44 : decode cX5_year 44 = .ok (.ifCond .eq 15, 3) := by decide +kernel
theorem dX5_year_47 : decode cX5_year 47 = .ok (.lload_n 3, 1) := by decide +kernel
theorem dX5_year_48 : decode cX5_year 48 = .ok (.lconst 1, 1) := by decide +kernel
theorem dX5_year_49 : decode cX5_year 49 = .ok (.aload_n 0, 1) := by decide +kernel
theorem dX5_year_50 : decode cX5_year 50 = .ok (.iload 6, 2) := by decide +kernel
theorem dX5_year_52 : decode cX5_year 52 = .ok (.iload_n 1, 1) := by decide +kernel
theorem dX5_year_53 : decode cX5_year 53 = .ok (.invokevirtual 196, 3) := by decide +kernel
theorem dX5_year_56 : decode cX5_year 56 = .ok (.lshl, 1) := by decide +kernel
theorem dX5_year_57 : decode cX5_year 57 = .ok (.lor, 1) := by decide +kernel
theorem dX5_year_58 : decode cX5_year 58 = .ok (.lstore_n 3, 1) := by decide +kernel
theorem dX5_year_59 : decode cX5_year 59 = .ok (.iinc 6 1, 3) := by decide +kernel
theorem dX5_year_62 : decode cX5_year 62 = .ok (.goto (-32), 3) := by decide +kernel
theorem dX5_year_65 : decode cX5_year 65 = .ok (.lload_n 3, 1) := by decide +kernel
theorem dX5_year_66 : decode cX5_year 66 = .ok (.lconst 0, 1) := by decide +kernel
theorem dX5_year_67 : decode cX5_year 67 = .ok (.lcmp, 1) := by decide +kernel
theorem dX5_year_68 : decode cX5_year 68 = .ok (.ifCond .ne 5, 3) := by decide +kernel
theorem dX5_year_71 : decode cX5_year 71 = .ok (.iconst (-1), 1) := by decide +kernel
theorem dX5_year_72 : decode cX5_year 72 = .ok (.ireturn, 1) := by decide +kernel
theorem dX5_year_73 : decode cX5_year 73 = .ok (.iload_n 2, 1) := by decide +kernel
theorem dX5_year_74 : decode cX5_year 74 = .ok (.ifCond .ne 10, 3) := by decide +kernel
theorem dX5_year_77 : decode cX5_year 77 = .ok (.lload_n 3, 1) := by decide +kernel
theorem dX5_year_78 : decode cX5_year 78 = .ok (.invokestatic 206, 3) := by decide +kernel
theorem dX5_year_81 : decode cX5_year 81 = .ok (.goto 22, 3) := by decide +kernel
theorem dX5_year_84 : decode cX5_year 84 = .ok (.iload_n 2, 1) := by decide +kernel
theorem dX5_year_85 : decode cX5_year 85 = .ok (.iconst 1, 1) := by decide +kernel
theorem dX5_year_86 : decode cX5_year 86 = .ok (.if_icmp .ne 13, 3) := by decide +kernel
theorem dX5_year_89 : decode cX5_year 89 = .ok (.bipush 63, 2) := by decide +kernel
theorem dX5_year_91 : decode cX5_year 91 = .ok (.lload_n 3, 1) := by decide +kernel
theorem dX5_year_92 : decode cX5_year 92 = .ok (.invokestatic 212, 3) := by decide +kernel
theorem dX5_year_95 : decode cX5_year 95 = .ok (.isub, 1) := by decide +kernel
theorem dX5_year_96 : decode cX5_year 96 = .ok (.goto 7, 3) := by decide +kernel
theorem dX5_year_99 : decode cX5_year 99 = .ok (.lload_n 3, 1) := by decide +kernel
theorem dX5_year_100 : decode cX5_year 100 = .ok (.invokestatic 215, 3) := by decide +kernel
theorem dX5_year_103 : decode cX5_year 103 = .ok (.ireturn, 1) := by decide +kernel
set_option maxRecDepth 20000 in
theorem ggX5_wrong_X5_codes : GoodIn wsX5_wrong wsX5_codes := goodIn_r _ [6, 1, 7, 8, 33, 34, 35, 36, 37, 38, 39, 40, 41, 42, 43, 44, 45, 46, 47, 48, 49, 50, 51, 52, 53, 54, 55, 56, 57, 58, 59, 60, 61, 62, 63, 64, 65, 66, 67, 68, 69, 70, 71, 72, 73, 74, 75, 76] (by decide +kernel) (by decide +kernel)
set_option maxRecDepth 20000 in
theorem gX5_wrong_X5_codes : GoodIn wsX5_wrong (wsV RX5 200 RX5 yX5_codes wsX5_codes) := goodIn_app (goodIn_of _ (by decide +kernel)) ggX5_wrong_X5_codes
set_option maxRecDepth 20000 in
theorem ggX5_wrong_J6_bitCount_0f7a4 : GoodIn wsX5_wrong wsJ6_bitCount_0f7a4 := goodIn_r _ [12, 13, 14, 15] (by decide +kernel) (by decide +kernel)
set_option maxRecDepth 20000 in
theorem gX5_wrong_J6_bitCount_0f7a4 : GoodIn wsX5_wrong (va_wsS RX5 218 yJ6_bitCount_0f7a4 wsJ6_bitCount_0f7a4) := goodIn_app (goodIn_of _ (by decide +kernel)) ggX5_wrong_J6_bitCount_0f7a4
set_option maxRecDepth 20000 in
theorem ggX5_wrong_X5_isRoll : GoodIn wsX5_wrong wsX5_isRoll := goodIn_r _ [19, 1, 8, 20, 21, 22, 23, 24, 25, 5, 26, 7, 27, 28, 29, 30, 31, 32, 33, 34, 35, 36, 37, 38, 39, 40, 41, 42, 43, 44, 45, 46, 47, 48, 49, 50, 51, 52, 53, 54, 55, 56, 57, 58, 59, 60, 61, 62, 63, 64, 65, 66, 67, 68, 69, 70, 71, 72, 73, 74, 75, 76] (by decide +kernel) (by decide +kernel)
set_option maxRecDepth 20000 in
theorem gX5_wrong_X5_isRoll : GoodIn wsX5_wrong (wsV RX5 203 RX5 yX5_isRoll wsX5_isRoll) := goodIn_app (goodIn_of _ (by decide +kernel)) ggX5_wrong_X5_isRoll
theorem dX5_wrong_0 : decode cX5_wrong 0 = .ok (.aload_n 0, 1) := by decide +kernel
theorem dX5_wrong_1 : decode cX5_wrong 1 = .ok (.invokevirtual 200, 3) := by decide +kernel
theorem dX5_wrong_4 : decode cX5_wrong 4 = .ok (.istore_n 1, 1) := by decide +kernel
theorem dX5_wrong_5 : decode cX5_wrong 5 = .ok (.iconst 0, 1) := by decide +kernel
theorem dX5_wrong_6 : decode cX5_wrong 6 = .ok (.istore_n 2, 1) := by decide +kernel
theorem dX5_wrong_7 : decode cX5_wrong 7 = .ok (.iload_n 2, 1) := by decide +kernel
theorem dX5_wrong_8 : decode cX5_wrong 8 = .ok (.aload_n 0, 1) := by decide +kernel
theorem dX5_wrong_9 : decode cX5_wrong 9 = .ok (.getfield 187, 3) := by decide +kernel
theorem dX5_wrong_12 : decode cX5_wrong 12 = .ok (.if_icmp .gt 65, 3) := by decide +kernel
theorem dX5_wrong_15 : decode cX5_wrong 15 = .ok (.iconst 0, 1) := by decide +kernel
theorem dX5_wrong_16 : decode cX5_wrong 16 = .ok (.istore_n 3, 1) := by decide +kernel
theorem dX5_wrong_17 : decode cX5_wrong 17 = .ok (.iload_n 3, 1) := by decide +kernel
theorem dX5_wrong_18 : decode cX5_wrong 18 = .ok (.iconst 1, 1) := by decide +kernel
theorem dX5_wrong_19 : decode cX5_wrong 19 = .ok (.aload_n 0, 1) := by decide +kernel
theorem dX5_wrong_20 : decode cX5_wrong 20 = .ok (.getfield 187, 3) := by decide +kernel
theorem dX5_wrong_23 : decode cX5_wrong 23 = .ok (.ishl, 1) := by decide +kernel
theorem dX5_wrong_24 : decode cX5_wrong 24 = .ok (.if_icmp .ge 47, 3) := by decide +kernel
theorem dX5_wrong_27 : decode cX5_wrong 27 = .ok (.iload_n 3, 1) := by decide +kernel
theorem dX5_wrong_28 : decode cX5_wrong 28 = .ok (.invokestatic 218, 3) := by decide +kernel
theorem dX5_wrong_31 : decode cX5_wrong 31 = .ok (.iload_n 2, 1) := by decide +kernel
theorem dX5_wrong_32 : decode cX5_wrong 32 = .ok (.if_icmp .eq 6, 3) := by decide +kernel
theorem dX5_wrong_35 : decode cX5_wrong 35 = .ok (.goto 30, 3) := by decide +kernel
theorem dX5_wrong_38 : decode cX5_wrong 38 = .ok (.iconst 0, 1) := by decide +kernel
theorem dX5_wrong_39 : decode cX5_wrong 39 = .ok (.istore 4, 2) := by decide +kernel
theorem dX5_wrong_41 : decode cX5_wrong 41 = .ok (.iload 4, 2) := by decide +kernel
theorem dX5_wrong_43 : decode cX5_wrong 43 = .ok (.iload_n 1, 1) := by decide +kernel
theorem dX5_wrong_44 : decode cX5_wrong 44 = .ok (.if_icmp .ge 21, 3) := by decide +kernel
theorem dX5_wrong_47 : decode cX5_wrong 47 = .ok (.aload_n 0, 1) := by decide +kernel
theorem dX5_wrong_48 : decode cX5_wrong 48 = .ok (.iload 4, 2) := by decide +kernel
theorem dX5_wrong_50 : decode cX5_wrong 50 = .ok (.iload_n 3, 1) := by decide +kernel
theorem dX5_wrong_51 : decode cX5_wrong 51 = .ok (.invokevirtual 203, 3) := by decide +kernel
theorem dX5_wrong_54 : decode cX5_wrong 54 = .ok (.ifCond .eq 5, 3) := by decide +kernel
theorem dX5_wrong_57 : decode cX5_wrong 57 = .ok (.iload_n 3, 1) := by decide +kernel
theorem dX5_wrong_58 : decode cX5_wrong 58 = .ok (.ireturn, 1) := by decide +kernel
theorem dX5_wrong_59 : decode cX5_wrong 59 = .ok (.iinc 4 1, 3) := by decide +kernel
theorem dX5_wrong_62 : decode cX5_wrong 62 = .ok (.goto (-21), 3) := by decide +kernel
theorem dX5_wrong_65 : decode cX5_wrong 65 = .ok (.iinc 3 1, 3) := by decide +kernel
theorem dX5_wrong_68 : decode cX5_wrong 68 = .ok (.goto (-51), 3) := by decide +kernel
theorem dX5_wrong_71 : decode cX5_wrong 71 = .ok (.iinc 2 1, 3) := by decide +kernel
theorem dX5_wrong_74 : decode cX5_wrong 74 = .ok (.goto (-67), 3) := by decide +kernel
theorem dX5_wrong_77 : decode cX5_wrong 77 = .ok (.iconst (-1), 1) := by decide +kernel
theorem dX5_wrong_78 : decode cX5_wrong 78 = .ok (.ireturn, 1) := by decide +kernel
set_option maxRecDepth 20000 in
theorem ggX5_letter_X5_isStone : GoodIn wsX5_letter wsX5_isStone := goodIn_r _ [6, 7, 8, 9, 5, 10, 11, 12, 13, 14, 15, 16, 17, 18, 19, 20, 21, 22, 23, 24, 25, 26, 27, 28, 29, 30, 31, 32, 33, 34, 35, 36, 37, 38, 39, 40, 41, 42, 43, 44, 45, 46, 47, 48, 49, 50, 51, 52, 53, 54] (by decide +kernel) (by decide +kernel)
set_option maxRecDepth 20000 in
theorem gX5_letter_X5_isStone : GoodIn wsX5_letter (wsV RX5 190 RX5 yX5_isStone wsX5_isStone) := goodIn_app (goodIn_of _ (by decide +kernel)) ggX5_letter_X5_isStone
set_option maxRecDepth 20000 in
theorem ggX5_letter_X5_in : GoodIn wsX5_letter wsX5_in := goodIn_r _ [10] (by decide +kernel) (by decide +kernel)
set_option maxRecDepth 20000 in
theorem gX5_letter_X5_in : GoodIn wsX5_letter (va_wsS RX5 96 yX5_in wsX5_in) := goodIn_app (goodIn_of _ (by decide +kernel)) ggX5_letter_X5_in
theorem dX5_letter_0 : decode cX5_letter 0 = .ok (.aload_n 0, 1) := by decide +kernel
theorem dX5_letter_1 : decode cX5_letter 1 = .ok (.iload_n 1, 1) := by decide +kernel
theorem dX5_letter_2 : decode cX5_letter 2 = .ok (.invokevirtual 190, 3) := by decide +kernel
theorem dX5_letter_5 : decode cX5_letter 5 = .ok (.ifCond .eq 27, 3) := by decide +kernel
theorem dX5_letter_8 : decode cX5_letter 8 = .ok (.iload_n 2, 1) := by decide +kernel
theorem dX5_letter_9 : decode cX5_letter 9 = .ok (.iconst 0, 1) := by decide +kernel
theorem dX5_letter_10 : decode cX5_letter 10 = .ok (.bipush 7, 2) := by decide +kernel
theorem dX5_letter_12 : decode cX5_letter 12 = .ok (.invokestatic 96, 3) := by decide +kernel
theorem dX5_letter_15 : decode cX5_letter 15 = .ok (.ifCond .eq 17, 3) := by decide +kernel
theorem dX5_letter_18 : decode cX5_letter 18 = .ok (.aload_n 0, 1) := by decide +kernel
theorem dX5_letter_19 : decode cX5_letter 19 = .ok (.getfield 81, 3) := by decide +kernel
theorem dX5_letter_22 : decode cX5_letter 22 = .ok (.bipush 8, 2) := by decide +kernel
theorem dX5_letter_24 : decode cX5_letter 24 = .ok (.iload_n 1, 1) := by decide +kernel
theorem dX5_letter_25 : decode cX5_letter 25 = .ok (.imul, 1) := by decide +kernel
theorem dX5_letter_26 : decode cX5_letter 26 = .ok (.iload_n 2, 1) := by decide +kernel
theorem dX5_letter_27 : decode cX5_letter 27 = .ok (.iadd, 1) := by decide +kernel
theorem dX5_letter_28 : decode cX5_letter 28 = .ok (.iaload, 1) := by decide +kernel
theorem dX5_letter_29 : decode cX5_letter 29 = .ok (.goto 4, 3) := by decide +kernel
theorem dX5_letter_32 : decode cX5_letter 32 = .ok (.iconst (-1), 1) := by decide +kernel
theorem dX5_letter_33 : decode cX5_letter 33 = .ok (.ireturn, 1) := by decide +kernel
