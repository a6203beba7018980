theorem dX5_init_0 : decode cX5_init 0 = .ok (.aload_n 0, 1) := by decide +kernel
theorem dX5_init_1 : decode cX5_init 1 = .ok (.invokespecial 1, 3) := by decide +kernel
theorem dX5_init_4 : decode cX5_init 4 = .ok (.aload_n 0, 1) := by decide +kernel
theorem dX5_init_5 : decode cX5_init 5 = .ok (.bipush 24, 2) := by decide +kernel
theorem dX5_init_7 : decode cX5_init 7 = .ok (.newarray .int, 2) := by decide +kernel
theorem dX5_init_9 : decode cX5_init 9 = .ok (.putfield 9, 3) := by decide +kernel
theorem dX5_init_12 : decode cX5_init 12 = .ok (.aload_n 0, 1) := by decide +kernel
theorem dX5_init_13 : decode cX5_init 13 = .ok (.bipush 9, 2) := by decide +kernel
theorem dX5_init_15 : decode cX5_init 15 = .ok (.newarray .int, 2) := by decide +kernel
theorem dX5_init_17 : decode cX5_init 17 = .ok (.putfield 13, 3) := by decide +kernel
theorem dX5_init_20 : decode cX5_init 20 = .ok (.aload_n 0, 1) := by decide +kernel
theorem dX5_init_21 : decode cX5_init 21 = .ok (.bipush 24, 2) := by decide +kernel
theorem dX5_init_23 : decode cX5_init 23 = .ok (.newarray .int, 2) := by decide +kernel
theorem dX5_init_25 : decode cX5_init 25 = .ok (.putfield 16, 3) := by decide +kernel
theorem dX5_init_28 : decode cX5_init 28 = .ok (.aload_n 0, 1) := by decide +kernel
theorem dX5_init_29 : decode cX5_init 29 = .ok (.iconst (-1), 1) := by decide +kernel
theorem dX5_init_30 : decode cX5_init 30 = .ok (.putfield 19, 3) := by decide +kernel
theorem dX5_init_33 : decode cX5_init 33 = .ok (.aload_n 0, 1) := by decide +kernel
theorem dX5_init_34 : decode cX5_init 34 = .ok (.bipush 24, 2) := by decide +kernel
theorem dX5_init_36 : decode cX5_init 36 = .ok (.newarray .boolean, 2) := by decide +kernel
theorem dX5_init_38 : decode cX5_init 38 = .ok (.putfield 23, 3) := by decide +kernel
theorem dX5_init_41 : decode cX5_init 41 = .ok (.aload_n 0, 1) := by decide +kernel
theorem dX5_init_42 : decode cX5_init 42 = .ok (.bipush 24, 2) := by decide +kernel
theorem dX5_init_44 : decode cX5_init 44 = .ok (.newarray .int, 2) := by decide +kernel
theorem dX5_init_46 : decode cX5_init 46 = .ok (.putfield 27, 3) := by decide +kernel
theorem dX5_init_49 : decode cX5_init 49 = .ok (.aload_n 0, 1) := by decide +kernel
theorem dX5_init_50 : decode cX5_init 50 = .ok (.sipush 216, 3) := by decide +kernel
theorem dX5_init_53 : decode cX5_init 53 = .ok (.newarray .int, 2) := by decide +kernel
theorem dX5_init_55 : decode cX5_init 55 = .ok (.putfield 30, 3) := by decide +kernel
theorem dX5_init_58 : decode cX5_init 58 = .ok (.aload_n 0, 1) := by decide +kernel
theorem dX5_init_59 : decode cX5_init 59 = .ok (.iconst (-1), 1) := by decide +kernel
theorem dX5_init_60 : decode cX5_init 60 = .ok (.putfield 33, 3) := by decide +kernel
theorem dX5_init_63 : decode cX5_init 63 = .ok (.aload_n 0, 1) := by decide +kernel
theorem dX5_init_64 : decode cX5_init 64 = .ok (.iconst 4, 1) := by decide +kernel
theorem dX5_init_65 : decode cX5_init 65 = .ok (.newarray .int, 2) := by decide +kernel
theorem dX5_init_67 : decode cX5_init 67 = .ok (.putfield 36, 3) := by decide +kernel
theorem dX5_init_70 : decode cX5_init 70 = .ok (.aload_n 0, 1) := by decide +kernel
theorem dX5_init_71 : decode cX5_init 71 = .ok (.iconst 4, 1) := by decide +kernel
theorem dX5_init_72 : decode cX5_init 72 = .ok (.newarray .int, 2) := by decide +kernel
theorem dX5_init_74 : decode cX5_init 74 = .ok (.putfield 39, 3) := by decide +kernel
theorem dX5_init_77 : decode cX5_init 77 = .ok (.aload_n 0, 1) := by decide +kernel
theorem dX5_init_78 : decode cX5_init 78 = .ok (.bipush 8, 2) := by decide +kernel
theorem dX5_init_80 : decode cX5_init 80 = .ok (.newarray .int, 2) := by decide +kernel
theorem dX5_init_82 : decode cX5_init 82 = .ok (.putfield 42, 3) := by decide +kernel
theorem dX5_init_85 : decode cX5_init 85 = .ok (.aload_n 0, 1) := by decide +kernel
theorem dX5_init_86 : decode cX5_init 86 = .ok (.bipush 8, 2) := by decide +kernel
theorem dX5_init_88 : decode cX5_init 88 = .ok (.newarray .int, 2) := by decide +kernel
theorem dX5_init_90 : decode cX5_init 90 = .ok (.putfield 45, 3) := by decide +kernel
theorem dX5_init_93 : decode cX5_init 93 = .ok (.aload_n 0, 1) := by decide +kernel
theorem dX5_init_94 : decode cX5_init 94 = .ok (.bipush 8, 2) := by decide +kernel
theorem dX5_init_96 : decode cX5_init 96 = .ok (.newarray .int, 2) := by decide +kernel
theorem dX5_init_98 : decode cX5_init 98 = .ok (.putfield 48, 3) := by decide +kernel
theorem dX5_init_101 : decode cX5_init 101 = .ok (.aload_n 0, 1) := by decide +kernel
theorem dX5_init_102 : decode cX5_init 102 = .ok (.bipush 8, 2) := by decide +kernel
theorem dX5_init_104 : decode cX5_init 104 = .ok (.newarray .int, 2) := by decide +kernel
theorem dX5_init_106 : decode cX5_init 106 = .ok (.putfield 51, 3) := by decide +kernel
theorem dX5_init_109 : decode cX5_init 109 = .ok (.aload_n 0, 1) := by decide +kernel
theorem dX5_init_110 : decode cX5_init 110 = .ok (.bipush 8, 2) := by decide +kernel
theorem dX5_init_112 : decode cX5_init 112 = .ok (.newarray .int, 2) := by decide +kernel
theorem dX5_init_114 : decode cX5_init 114 = .ok (.putfield 54, 3) := by decide +kernel
theorem dX5_init_117 : decode cX5_init 117 = .ok (.aload_n 0, 1) := by decide +kernel
theorem dX5_init_118 : decode cX5_init 118 = .ok (.bipush 8, 2) := by decide +kernel
theorem dX5_init_120 : decode cX5_init 120 = .ok (.newarray .int, 2) := by decide +kernel
theorem dX5_init_122 : decode cX5_init 122 = .ok (.putfield 57, 3) := by decide +kernel
theorem dX5_init_125 : decode cX5_init 125 = .ok (.aload_n 0, 1) := by decide +kernel
theorem dX5_init_126 : decode cX5_init 126 = .ok (.bipush 8, 2) := by decide +kernel
theorem dX5_init_128 : decode cX5_init 128 = .ok (.newarray .int, 2) := by decide +kernel
theorem dX5_init_130 : decode cX5_init 130 = .ok (.putfield 60, 3) := by decide +kernel
theorem dX5_init_133 : decode cX5_init 133 = .ok (.aload_n 0, 1) := by decide +kernel
theorem dX5_init_134 : decode cX5_init 134 = .ok (.bipush 8, 2) := by decide +kernel
theorem dX5_init_136 : decode cX5_init 136 = .ok (.newarray .int, 2) := by decide +kernel
theorem dX5_init_138 : decode cX5_init 138 = .ok (.putfield 63, 3) := by decide +kernel
theorem dX5_init_141 : decode cX5_init 141 = .ok (.aload_n 0, 1) := by decide +kernel
theorem dX5_init_142 : decode cX5_init 142 = .ok (.bipush 96, 2) := by decide +kernel
theorem dX5_init_144 : decode cX5_init 144 = .ok (.newarray .int, 2) := by decide +kernel
theorem dX5_init_146 : decode cX5_init 146 = .ok (.putfield 66, 3) := by decide +kernel
theorem dX5_init_149 : decode cX5_init 149 = .ok (.aload_n 0, 1) := by decide +kernel
theorem dX5_init_150 : decode cX5_init 150 = .ok (.bipush 96, 2) := by decide +kernel
theorem dX5_init_152 : decode cX5_init 152 = .ok (.newarray .int, 2) := by decide +kernel
theorem dX5_init_154 : decode cX5_init 154 = .ok (.putfield 69, 3) := by decide +kernel
theorem dX5_init_157 : decode cX5_init 157 = .ok (.aload_n 0, 1) := by decide +kernel
theorem dX5_init_158 : decode cX5_init 158 = .ok (.bipush 6, 2) := by decide +kernel
theorem dX5_init_160 : decode cX5_init 160 = .ok (.newarray .int, 2) := by decide +kernel
theorem dX5_init_162 : decode cX5_init 162 = .ok (.putfield 72, 3) := by decide +kernel
theorem dX5_init_165 : decode cX5_init 165 = .ok (.aload_n 0, 1) := by decide +kernel
theorem dX5_init_166 : decode cX5_init 166 = .ok (.bipush 6, 2) := by decide +kernel
theorem dX5_init_168 : decode cX5_init 168 = .ok (.newarray .int, 2) := by decide +kernel
theorem dX5_init_170 : decode cX5_init 170 = .ok (.putfield 75, 3) := by decide +kernel
theorem dX5_init_173 : decode cX5_init 173 = .ok (.aload_n 0, 1) := by decide +kernel
theorem dX5_init_174 : decode cX5_init 174 = .ok (.bipush 6, 2) := by decide +kernel
theorem dX5_init_176 : decode cX5_init 176 = .ok (.newarray .int, 2) := by decide +kernel
theorem dX5_init_178 : decode cX5_init 178 = .ok (.putfield 78, 3) := by decide +kernel
theorem dX5_init_181 : decode cX5_init 181 = .ok (.aload_n 0, 1) := by decide +kernel
theorem dX5_init_182 : decode cX5_init 182 = .ok (.bipush 48, 2) := by decide +kernel
theorem dX5_init_184 : decode cX5_init 184 = .ok (.newarray .int, 2) := by decide +kernel
theorem dX5_init_186 : decode cX5_init 186 = .ok (.putfield 81, 3) := by decide +kernel
theorem dX5_init_189 : decode cX5_init 189 = .ok (.aload_n 0, 1) := by decide +kernel
theorem dX5_init_190 : decode cX5_init 190 = .ok (.bipush 6, 2) := by decide +kernel
theorem dX5_init_192 : decode cX5_init 192 = .ok (.newarray .int, 2) := by decide +kernel
theorem dX5_init_194 : decode cX5_init 194 = .ok (.putfield 84, 3) := by decide +kernel
theorem dX5_init_197 : decode cX5_init 197 = .ok (.aload_n 0, 1) := by decide +kernel
theorem dX5_init_198 : decode cX5_init 198 = .ok (.bipush 36, 2) := by decide +kernel
theorem dX5_init_200 : decode cX5_init 200 = .ok (.newarray .boolean, 2) := by decide +kernel
theorem dX5_init_202 : decode cX5_init 202 = .ok (.putfield 87, 3) := by decide +kernel
theorem dX5_init_205 : decode cX5_init 205 = .ok (.aload_n 0, 1) := by decide +kernel
theorem dX5_init_206 : decode cX5_init 206 = .ok (.bipush 12, 2) := by decide +kernel
theorem dX5_init_208 : decode cX5_init 208 = .ok (.putfield 90, 3) := by decide +kernel
theorem dX5_init_211 : decode cX5_init 211 = .ok (.aload_n 0, 1) := by decide +kernel
theorem dX5_init_212 : decode cX5_init 212 = .ok (.bipush 24, 2) := by decide +kernel
theorem dX5_init_214 : decode cX5_init 214 = .ok (.newarray .boolean, 2) := by decide +kernel
theorem dX5_init_216 : decode cX5_init 216 = .ok (.putfield 93, 3) := by decide +kernel
theorem dX5_init_219 : decode cX5_init 219 = .ok (.return_, 1) := by decide +kernel
theorem dX5_in_0 : decode cX5_in 0 = .ok (.iload_n 0, 1) := by decide +kernel
theorem dX5_in_1 : decode cX5_in 1 = .ok (.iload_n 1, 1) := by decide +kernel
theorem dX5_in_2 : decode cX5_in 2 = .ok (.if_icmp .lt 12, 3) := by decide +kernel
theorem dX5_in_5 : decode cX5_in 5 = .ok (.iload_n 0, 1) := by decide +kernel
theorem dX5_in_6 : decode cX5_in 6 = .ok (.iload_n 2, 1) := by decide +kernel
theorem dX5_in_7 : decode cX5_in 7 = .ok (.if_icmp .gt 7, 3) := by decide +kernel
theorem dX5_in_10 : decode cX5_in 10 = .ok (.iconst 1, 1) := by decide +kernel
theorem dX5_in_11 : decode cX5_in 11 = .ok (.goto 4, 3) := by decide +kernel
theorem dX5_in_14 : decode cX5_in 14 = .ok (.iconst 0, 1) := by decide +kernel
theorem dX5_in_15 : decode cX5_in 15 = .ok (.ireturn, 1) := by decide +kernel
set_option maxRecDepth 20000 in
theorem ggX5_runner_X5_in : GoodIn wsX5_runner wsX5_in := goodIn_r _ [6] (by decide +kernel) (by decide +kernel)
set_option maxRecDepth 20000 in
theorem gX5_runner_X5_in : GoodIn wsX5_runner (va_wsS RX5 96 yX5_in wsX5_in) := goodIn_app (goodIn_of _ (by decide +kernel)) ggX5_runner_X5_in
theorem dX5_runner_0 : decode cX5_runner 0 = .ok (.iload_n 1, 1) := by decide +kernel
theorem dX5_runner_1 : decode cX5_runner 1 = .ok (.iconst 0, 1) := by decide +kernel
theorem dX5_runner_2 : decode cX5_runner 2 = .ok (.bipush 9, 2) := by decide +kernel
theorem dX5_runner_4 : decode cX5_runner 4 = .ok (.invokestatic 96, 3) := by decide +kernel
theorem dX5_runner_7 : decode cX5_runner 7 = .ok (.ifCond .eq 12, 3) := by decide +kernel
theorem dX5_runner_10 : decode cX5_runner 10 = .ok (.aload_n 0, 1) := by decide +kernel
theorem dX5_runner_11 : decode cX5_runner 11 = .ok (.getfield 100, 3) := by decide +kernel
theorem dX5_runner_14 : decode cX5_runner 14 = .ok (.bipush 24, 2) := by decide +kernel
theorem dX5_runner_16 : decode cX5_runner 16 = .ok (.if_icmp .ne 5, 3) := by decide +kernel
theorem dX5_runner_19 : decode cX5_runner 19 = .ok (.iconst (-1), 1) := by decide +kernel
theorem dX5_runner_20 : decode cX5_runner 20 = .ok (.ireturn, 1) := by decide +kernel
theorem dX5_runner_21 : decode cX5_runner 21 = .ok (.aload_n 0, 1) := by decide +kernel
theorem dX5_runner_22 : decode cX5_runner 22 = .ok (.getfield 9, 3) := by decide +kernel
theorem dX5_runner_25 : decode cX5_runner 25 = .ok (.aload_n 0, 1) := by decide +kernel
theorem dX5_runner_26 : decode cX5_runner 26 = .ok (.getfield 100, 3) := by decide +kernel
theorem dX5_runner_29 : decode cX5_runner 29 = .ok (.iload_n 1, 1) := by decide +kernel
theorem dX5_runner_30 : decode cX5_runner 30 = .ok (.iastore, 1) := by decide +kernel
theorem dX5_runner_31 : decode cX5_runner 31 = .ok (.aload_n 0, 1) := by decide +kernel
theorem dX5_runner_32 : decode cX5_runner 32 = .ok (.dup, 1) := by decide +kernel
theorem dX5_runner_33 : decode cX5_runner 33 = .ok (.getfield 100, 3) := by decide +kernel
theorem dX5_runner_36 : decode cX5_runner 36 = .ok (.iconst 1, 1) := by decide +kernel
theorem dX5_runner_37 : decode cX5_runner 37 = .ok (.iadd, 1) := by decide +kernel
theorem dX5_runner_38 : decode cX5_runner 38 = .ok (.putfield 100, 3) := by decide +kernel
theorem dX5_runner_41 : decode cX5_runner 41 = .ok (.aload_n 0, 1) := by decide +kernel
theorem dX5_runner_42 : decode cX5_runner 42 = .ok (.getfield 100, 3) := by decide +kernel
theorem dX5_runner_45 : decode cX5_runner 45 = .ok (.iconst 1, 1) := by decide +kernel
theorem dX5_runner_46 : decode cX5_runner 46 = .ok (.isub, 1) := by decide +kernel
theorem dX5_runner_47 : decode cX5_runner 47 = .ok (.ireturn, 1) := by decide +kernel
set_option maxRecDepth 20000 in
theorem ggX5_judge_X5_in : GoodIn wsX5_judge wsX5_in := goodIn_r _ [6] (by decide +kernel) (by decide +kernel)
set_option maxRecDepth 20000 in
theorem gX5_judge_X5_in : GoodIn wsX5_judge (va_wsS RX5 96 yX5_in wsX5_in) := goodIn_app (goodIn_of _ (by decide +kernel)) ggX5_judge_X5_in
theorem dX5_judge_0 : decode cX5_judge 0 = .ok (.iload_n 1, 1) := by decide +kernel
theorem dX5_judge_1 : decode cX5_judge 1 = .ok (.iconst 0, 1) := by decide +kernel
theorem dX5_judge_2 : decode cX5_judge 2 = .ok (.bipush 9, 2) := by decide +kernel
theorem dX5_judge_4 : decode cX5_judge 4 = .ok (.invokestatic 96, 3) := by decide +kernel
theorem dX5_judge_7 : decode cX5_judge 7 = .ok (.ifCond .eq 12, 3) := by decide +kernel
theorem dX5_judge_10 : decode cX5_judge 10 = .ok (.aload_n 0, 1) := by decide +kernel
theorem dX5_judge_11 : decode cX5_judge 11 = .ok (.getfield 103, 3) := by decide +kernel
theorem dX5_judge_14 : decode cX5_judge 14 = .ok (.bipush 9, 2) := by decide +kernel
theorem dX5_judge_16 : decode cX5_judge 16 = .ok (.if_icmp .ne 5, 3) := by decide +kernel
theorem dX5_judge_19 : decode cX5_judge 19 = .ok (.iconst (-1), 1) := by decide +kernel
theorem dX5_judge_20 : decode cX5_judge 20 = .ok (.ireturn, 1) := by decide +kernel
theorem dX5_judge_21 : decode cX5_judge 21 = .ok (.aload_n 0, 1) := by decide +kernel
theorem dX5_judge_22 : decode cX5_judge 22 = .ok (.getfield 13, 3) := by decide +kernel
theorem dX5_judge_25 : decode cX5_judge 25 = .ok (.aload_n 0, 1) := by decide +kernel
theorem dX5_judge_26 : decode cX5_judge 26 = .ok (.getfield 103, 3) := by decide +kernel
theorem dX5_judge_29 : decode cX5_judge 29 = .ok (.iload_n 1, 1) := by decide +kernel
theorem dX5_judge_30 : decode cX5_judge 30 = .ok (.iastore, 1) := by decide +kernel
theorem dX5_judge_31 : decode cX5_judge 31 = .ok (.aload_n 0, 1) := by decide +kernel
theorem dX5_judge_32 : decode cX5_judge 32 = .ok (.dup, 1) := by decide +kernel
theorem dX5_judge_33 : decode cX5_judge 33 = .ok (.getfield 103, 3) := by decide +kernel
theorem dX5_judge_36 : decode cX5_judge 36 = .ok (.iconst 1, 1) := by decide +kernel
theorem dX5_judge_37 : decode cX5_judge 37 = .ok (.iadd, 1) := by decide +kernel
theorem dX5_judge_38 : decode cX5_judge 38 = .ok (.putfield 103, 3) := by decide +kernel
theorem dX5_judge_41 : decode cX5_judge 41 = .ok (.aload_n 0, 1) := by decide +kernel
theorem dX5_judge_42 : decode cX5_judge 42 = .ok (.getfield 103, 3) := by decide +kernel
theorem dX5_judge_45 : decode cX5_judge 45 = .ok (.iconst 1, 1) := by decide +kernel
theorem dX5_judge_46 : decode cX5_judge 46 = .ok (.isub, 1) := by decide +kernel
theorem dX5_judge_47 : decode cX5_judge 47 = .ok (.ireturn, 1) := by decide +kernel
theorem dX5_heats_0 : decode cX5_heats 0 = .ok (.aload_n 0, 1) := by decide +kernel
theorem dX5_heats_1 : decode cX5_heats 1 = .ok (.getfield 106, 3) := by decide +kernel
theorem dX5_heats_4 : decode cX5_heats 4 = .ok (.aload_n 0, 1) := by decide +kernel
theorem dX5_heats_5 : decode cX5_heats 5 = .ok (.getfield 19, 3) := by decide +kernel
theorem dX5_heats_8 : decode cX5_heats 8 = .ok (.iconst (-1), 1) := by decide +kernel
theorem dX5_heats_9 : decode cX5_heats 9 = .ok (.if_icmp .ne 7, 3) := by decide +kernel
theorem dX5_heats_12 : decode cX5_heats 12 = .ok (.iconst 0, 1) := by decide +kernel
theorem dX5_heats_13 : decode cX5_heats 13 = .ok (.goto 4, 3) := by decide +kernel
theorem dX5_heats_16 : decode cX5_heats 16 = .ok (.iconst 1, 1) := by decide +kernel
theorem dX5_heats_17 : decode cX5_heats 17 = .ok (.isub, 1) := by decide +kernel
theorem dX5_heats_18 : decode cX5_heats 18 = .ok (.istore_n 1, 1) := by decide +kernel
theorem dX5_heats_19 : decode cX5_heats 19 = .ok (.iload_n 1, 1) := by decide +kernel
theorem dX5_heats_20 : decode cX5_heats 20 = .ok (.aload_n 0, 1) := by decide +kernel
theorem dX5_heats_21 : decode cX5_heats 21 = .ok (.getfield 109, 3) := by decide +kernel
theorem dX5_heats_24 : decode cX5_heats 24 = .ok (.iadd, 1) := by decide +kernel
theorem dX5_heats_25 : decode cX5_heats 25 = .ok (.iconst 1, 1) := by decide +kernel
theorem dX5_heats_26 : decode cX5_heats 26 = .ok (.isub, 1) := by decide +kernel
theorem dX5_heats_27 : decode cX5_heats 27 = .ok (.aload_n 0, 1) := by decide +kernel
theorem dX5_heats_28 : decode cX5_heats 28 = .ok (.getfield 109, 3) := by decide +kernel
theorem dX5_heats_31 : decode cX5_heats 31 = .ok (.idiv, 1) := by decide +kernel
theorem dX5_heats_32 : decode cX5_heats 32 = .ok (.ireturn, 1) := by decide +kernel
theorem dX5_mix_0 : decode cX5_mix 0 = .ok (.aload_n 0, 1) := by decide +kernel
theorem dX5_mix_1 : decode cX5_mix 1 = .ok (.getfield 106, 3) := by decide +kernel
theorem dX5_mix_4 : decode cX5_mix 4 = .ok (.iconst 1, 1) := by decide +kernel
theorem dX5_mix_5 : decode cX5_mix 5 = .ok (.isub, 1) := by decide +kernel
theorem dX5_mix_6 : decode cX5_mix 6 = .ok (.istore_n 1, 1) := by decide +kernel
theorem dX5_mix_7 : decode cX5_mix 7 = .ok (.iload_n 1, 1) := by decide +kernel
theorem dX5_mix_8 : decode cX5_mix 8 = .ok (.ifCond .le 62, 3) := by decide +kernel
theorem dX5_mix_11 : decode cX5_mix 11 = .ok (.aload_n 0, 1) := by decide +kernel
theorem dX5_mix_12 : decode cX5_mix 12 = .ok (.aload_n 0, 1) := by decide +kernel
theorem dX5_mix_13 : decode cX5_mix 13 = .ok (.getfield 112, 3) := by decide +kernel
theorem dX5_mix_16 : decode cX5_mix 16 = .ok (.ldc 115, 2) := by decide +kernel
theorem dX5_mix_18 : decode cX5_mix 18 = .ok (.imul, 1) := by decide +kernel
theorem dX5_mix_19 : decode cX5_mix 19 = .ok (.sipush 12345, 3) := by decide +kernel
theorem dX5_mix_22 : decode cX5_mix 22 = .ok (.iadd, 1) := by decide +kernel
theorem dX5_mix_23 : decode cX5_mix 23 = .ok (.putfield 112, 3) := by decide +kernel
theorem dX5_mix_26 : decode cX5_mix 26 = .ok (.aload_n 0, 1) := by decide +kernel
theorem dX5_mix_27 : decode cX5_mix 27 = .ok (.getfield 112, 3) := by decide +kernel
theorem dX5_mix_30 : decode cX5_mix 30 = .ok (.bipush 16, 2) := by decide +kernel
theorem dX5_mix_32 : decode cX5_mix 32 = .ok (.iushr, 1) := by decide +kernel
theorem dX5_mix_33 : decode cX5_mix 33 = .ok (.iload_n 1, 1) := by decide +kernel
theorem dX5_mix_34 : decode cX5_mix 34 = .ok (.iconst 1, 1) := by decide +kernel
theorem dX5_mix_35 : decode cX5_mix 35 = .ok (.iadd, 1) := by decide +kernel
theorem dX5_mix_36 : decode cX5_mix 36 = .ok (.irem, 1) := by decide +kernel
theorem dX5_mix_37 : decode cX5_mix 37 = .ok (.istore_n 2, 1) := by decide +kernel
theorem dX5_mix_38 : decode cX5_mix 38 = .ok (.aload_n 0, 1) := by decide +kernel
theorem dX5_mix_39 : decode cX5_mix 39 = .ok (.getfield 16, 3) := by decide +kernel
theorem dX5_mix_42 : decode cX5_mix 42 = .ok (.iload_n 1, 1) := by decide +kernel
theorem dX5_mix_43 : decode cX5_mix 43 = .ok (.iaload, 1) := by decide +kernel
theorem dX5_mix_44 : decode cX5_mix 44 = .ok (.istore_n 3, 1) := by decide +kernel
theorem dX5_mix_45 : decode cX5_mix 45 = .ok (.aload_n 0, 1) := by decide +kernel
theorem dX5_mix_46 : decode cX5_mix 46 = .ok (.getfield 16, 3) := by decide +kernel
theorem dX5_mix_49 : decode cX5_mix 49 = .ok (.iload_n 1, 1) := by decide +kernel
theorem dX5_mix_50 : decode cX5_mix 50 = .ok (.aload_n 0, 1) := by decide +kernel
theorem dX5_mix_51 : decode cX5_mix 51 = .ok (.getfield 16, 3) := by decide +kernel
theorem dX5_mix_54 : decode cX5_mix 54 = .ok (.iload_n 2, 1) := by decide +kernel
theorem dX5_mix_55 : decode cX5_mix 55 = .ok (.iaload, 1) := by decide +kernel
theorem dX5_mix_56 : decode cX5_mix 56 = .ok (.iastore, 1) := by decide +kernel
theorem dX5_mix_57 : decode cX5_mix 57 = .ok (.aload_n 0, 1) := by decide +kernel
theorem dX5_mix_58 : decode cX5_mix 58 = .ok (.getfield 16, 3) := by decide +kernel
theorem dX5_mix_61 : decode cX5_mix 61 = .ok (.iload_n 2, 1) := by decide +kernel
theorem dX5_mix_62 : decode cX5_mix 62 = .ok (.iload_n 3, 1) := by decide +kernel
theorem dX5_mix_63 : decode cX5_mix 63 = .ok (.iastore, 1) := by decide +kernel
theorem dX5_mix_64 : decode cX5_mix 64 = .ok (.iinc 1 (-1), 3) := by decide +kernel
theorem dX5_mix_67 : decode cX5_mix 67 = .ok (.goto (-60), 3) := by decide +kernel
theorem dX5_mix_70 : decode cX5_mix 70 = .ok (.aload_n 0, 1) := by decide +kernel
theorem dX5_mix_71 : decode cX5_mix 71 = .ok (.iconst (-1), 1) := by decide +kernel
theorem dX5_mix_72 : decode cX5_mix 72 = .ok (.putfield 19, 3) := by decide +kernel
theorem dX5_mix_75 : decode cX5_mix 75 = .ok (.aload_n 0, 1) := by decide +kernel
theorem dX5_mix_76 : decode cX5_mix 76 = .ok (.getfield 106, 3) := by decide +kernel
theorem dX5_mix_79 : decode cX5_mix 79 = .ok (.aload_n 0, 1) := by decide +kernel
theorem dX5_mix_80 : decode cX5_mix 80 = .ok (.getfield 109, 3) := by decide +kernel
theorem dX5_mix_83 : decode cX5_mix 83 = .ok (.irem, 1) := by decide +kernel
theorem dX5_mix_84 : decode cX5_mix 84 = .ok (.iconst 1, 1) := by decide +kernel
theorem dX5_mix_85 : decode cX5_mix 85 = .ok (.if_icmp .ne 102, 3) := by decide +kernel
theorem dX5_mix_88 : decode cX5_mix 88 = .ok (.aload_n 0, 1) := by decide +kernel
theorem dX5_mix_89 : decode cX5_mix 89 = .ok (.getfield 106, 3) := by decide +kernel
theorem dX5_mix_92 : decode cX5_mix 92 = .ok (.iconst 1, 1) := by decide +kernel
theorem dX5_mix_93 : decode cX5_mix 93 = .ok (.isub, 1) := by decide +kernel
theorem dX5_mix_94 : decode cX5_mix 94 = .ok (.istore_n 1, 1) := by decide +kernel
theorem dX5_mix_95 : decode cX5_mix 95 = .ok (.aload_n 0, 1) := by decide +kernel
theorem dX5_mix_96 : decode cX5_mix 96 = .ok (.getfield 23, 3) := by decide +kernel
theorem dX5_mix_99 : decode cX5_mix 99 = .ok (.aload_n 0, 1) := by decide +kernel
theorem dX5_mix_100 : decode cX5_mix 100 = .ok (.getfield 16, 3) := by decide +kernel
theorem dX5_mix_103 : decode cX5_mix 103 = .ok (.iload_n 1, 1) := by decide +kernel
theorem dX5_mix_104 : decode cX5_mix 104 = .ok (.iaload, 1) := by decide +kernel
theorem dX5_mix_105 : decode cX5_mix 105 = .ok (.baload, 1) := by decide +kernel
theorem dX5_mix_106 : decode cX5_mix 106 = .ok (.ifCond .eq 61, 3) := by decide +kernel
theorem dX5_mix_109 : decode cX5_mix 109 = .ok (.iload_n 1, 1) := by decide +kernel
theorem dX5_mix_110 : decode cX5_mix 110 = .ok (.iconst 1, 1) := by decide +kernel
theorem dX5_mix_111 : decode cX5_mix 111 = .ok (.isub, 1) := by decide +kernel
theorem dX5_mix_112 : decode cX5_mix 112 = .ok (.istore_n 2, 1) := by decide +kernel
theorem dX5_mix_113 : decode cX5_mix 113 = .ok (.iload_n 2, 1) := by decide +kernel
theorem dX5_mix_114 : decode cX5_mix 114 = .ok (.ifCond .lt 23, 3) := by decide +kernel
theorem dX5_mix_117 : decode cX5_mix 117 = .ok (.aload_n 0, 1) := by decide +kernel
theorem dX5_mix_118 : decode cX5_mix 118 = .ok (.getfield 23, 3) := by decide +kernel
theorem dX5_mix_121 : decode cX5_mix 121 = .ok (.aload_n 0, 1) := by decide +kernel
theorem dX5_mix_122 : decode cX5_mix 122 = .ok (.getfield 16, 3) := by decide +kernel
theorem dX5_mix_125 : decode cX5_mix 125 = .ok (.iload_n 2, 1) := by decide +kernel
theorem dX5_mix_126 : decode cX5_mix 126 = .ok (.iaload, 1) := by decide +kernel
theorem dX5_mix_127 : decode cX5_mix 127 = .ok (.baload, 1) := by decide +kernel
theorem dX5_mix_128 : decode cX5_mix 128 = .ok (.ifCond .eq 9, 3) := by decide +kernel
theorem dX5_mix_131 : decode cX5_mix 131 = .ok (.iinc 2 (-1), 3) := by decide +kernel
theorem dX5_mix_134 : decode cX5_mix 134 = .ok (.goto (-21), 3) := by decide +kernel
theorem dX5_mix_137 : decode cX5_mix 137 = .ok (.iload_n 2, 1) := by decide +kernel
theorem dX5_mix_138 : decode cX5_mix 138 = .ok (.ifCond .lt 29, 3) := by decide +kernel
theorem dX5_mix_141 : decode cX5_mix 141 = .ok (.aload_n 0, 1) := by decide +kernel
theorem dX5_mix_142 : decode cX5_mix 142 = .ok (.getfield 16, 3) := by decide +kernel
theorem dX5_mix_145 : decode cX5_mix 145 = .ok (.iload_n 2, 1) := by decide +kernel
theorem dX5_mix_146 : decode cX5_mix 146 = .ok (.iaload, 1) := by decide +kernel
theorem dX5_mix_147 : decode cX5_mix 147 = .ok (.istore_n 3, 1) := by decide +kernel
theorem dX5_mix_148 : decode cX5_mix 148 = .ok (.aload_n 0, 1) := by decide +kernel
theorem dX5_mix_149 : decode cX5_mix 149 = .ok (.getfield 16, 3) := by decide +kernel
theorem dX5_mix_152 : decode cX5_mix 152 = .ok (.iload_n 2, 1) := by decide +kernel
theorem dX5_mix_153 : decode cX5_mix 153 = .ok (.aload_n 0, 1) := by decide +kernel
theorem dX5_mix_154 : decode cX5_mix 154 = .ok (.getfield 16, 3) := by decide +kernel
theorem dX5_mix_157 : decode cX5_mix 157 = .ok (.iload_n 1, 1) := by decide +kernel
theorem dX5_mix_158 : decode cX5_mix 158 = .ok (.iaload, 1) := by decide +kernel
theorem dX5_mix_159 : decode cX5_mix 159 = .ok (.iastore, 1) := by decide +kernel
theorem dX5_mix_160 : decode cX5_mix 160 = .ok (.aload_n 0, 1) := by decide +kernel
theorem dX5_mix_161 : decode cX5_mix 161 = .ok (.getfield 16, 3) := by decide +kernel
theorem dX5_mix_164 : decode cX5_mix 164 = .ok (.iload_n 1, 1) := by decide +kernel
theorem dX5_mix_165 : decode cX5_mix 165 = .ok (.iload_n 3, 1) := by decide +kernel
theorem dX5_mix_166 : decode cX5_mix 166 = .ok (.iastore, 1) := by decide +kernel
theorem dX5_mix_167 : decode cX5_mix 167 = .ok (.aload_n 0, 1) := by decide +kernel
theorem dX5_mix_168 : decode cX5_mix 168 = .ok (.aload_n 0, 1) := by decide +kernel
theorem dX5_mix_169 : decode cX5_mix 169 = .ok (.getfield 16, 3) := by decide +kernel
theorem dX5_mix_172 : decode cX5_mix 172 = .ok (.iload_n 1, 1) := by decide +kernel
theorem dX5_mix_173 : decode cX5_mix 173 = .ok (.iaload, 1) := by decide +kernel
theorem dX5_mix_174 : decode cX5_mix 174 = .ok (.putfield 19, 3) := by decide +kernel
theorem dX5_mix_177 : decode cX5_mix 177 = .ok (.aload_n 0, 1) := by decide +kernel
theorem dX5_mix_178 : decode cX5_mix 178 = .ok (.getfield 23, 3) := by decide +kernel
theorem dX5_mix_181 : decode cX5_mix 181 = .ok (.aload_n 0, 1) := by decide +kernel
theorem dX5_mix_182 : decode cX5_mix 182 = .ok (.getfield 19, 3) := by decide +kernel
theorem dX5_mix_185 : decode cX5_mix 185 = .ok (.iconst 1, 1) := by decide +kernel
theorem dX5_mix_186 : decode cX5_mix 186 = .ok (.bastore, 1) := by decide +kernel
theorem dX5_mix_187 : decode cX5_mix 187 = .ok (.iconst 0, 1) := by decide +kernel
theorem dX5_mix_188 : decode cX5_mix 188 = .ok (.istore_n 1, 1) := by decide +kernel
theorem dX5_mix_189 : decode cX5_mix 189 = .ok (.iload_n 1, 1) := by decide +kernel
theorem dX5_mix_190 : decode cX5_mix 190 = .ok (.bipush 24, 2) := by decide +kernel
theorem dX5_mix_192 : decode cX5_mix 192 = .ok (.if_icmp .ge 16, 3) := by decide +kernel
theorem dX5_mix_195 : decode cX5_mix 195 = .ok (.aload_n 0, 1) := by decide +kernel
theorem dX5_mix_196 : decode cX5_mix 196 = .ok (.getfield 27, 3) := by decide +kernel
theorem dX5_mix_199 : decode cX5_mix 199 = .ok (.iload_n 1, 1) := by decide +kernel
theorem dX5_mix_200 : decode cX5_mix 200 = .ok (.iconst (-1), 1) := by decide +kernel
theorem dX5_mix_201 : decode cX5_mix 201 = .ok (.iastore, 1) := by decide +kernel
theorem dX5_mix_202 : decode cX5_mix 202 = .ok (.iinc 1 1, 3) := by decide +kernel
theorem dX5_mix_205 : decode cX5_mix 205 = .ok (.goto (-16), 3) := by decide +kernel
theorem dX5_mix_208 : decode cX5_mix 208 = .ok (.iconst 0, 1) := by decide +kernel
theorem dX5_mix_209 : decode cX5_mix 209 = .ok (.istore_n 1, 1) := by decide +kernel
theorem dX5_mix_210 : decode cX5_mix 210 = .ok (.iload_n 1, 1) := by decide +kernel
theorem dX5_mix_211 : decode cX5_mix 211 = .ok (.sipush 216, 3) := by decide +kernel
theorem dX5_mix_214 : decode cX5_mix 214 = .ok (.if_icmp .ge 16, 3) := by decide +kernel
theorem dX5_mix_217 : decode cX5_mix 217 = .ok (.aload_n 0, 1) := by decide +kernel
theorem dX5_mix_218 : decode cX5_mix 218 = .ok (.getfield 30, 3) := by decide +kernel
theorem dX5_mix_221 : decode cX5_mix 221 = .ok (.iload_n 1, 1) := by decide +kernel
theorem dX5_mix_222 : decode cX5_mix 222 = .ok (.iconst (-1), 1) := by decide +kernel
theorem dX5_mix_223 : decode cX5_mix 223 = .ok (.iastore, 1) := by decide +kernel
theorem dX5_mix_224 : decode cX5_mix 224 = .ok (.iinc 1 1, 3) := by decide +kernel
theorem dX5_mix_227 : decode cX5_mix 227 = .ok (.goto (-17), 3) := by decide +kernel
theorem dX5_mix_230 : decode cX5_mix 230 = .ok (.return_, 1) := by decide +kernel
set_option maxRecDepth 20000 in
theorem ggX5_contest_X5_in : GoodIn wsX5_contest wsX5_in := goodIn_r _ [13] (by decide +kernel) (by decide +kernel)
set_option maxRecDepth 20000 in
theorem gX5_contest_X5_in : GoodIn wsX5_contest (va_wsS RX5 96 yX5_in wsX5_in) := goodIn_app (goodIn_of _ (by decide +kernel)) ggX5_contest_X5_in
set_option maxRecDepth 20000 in
theorem ggX5_contest_X5_mix : GoodIn wsX5_contest wsX5_mix := goodIn_r _ [17, 7, 4, 18, 8, 19, 3, 9, 20, 21, 26, 27, 28, 29, 30, 31, 32, 33, 34, 35, 36, 37, 38, 39, 40, 41, 42, 43, 44, 45, 46, 47, 48, 49, 50, 51, 52, 53, 54, 55, 56, 57, 58, 59, 60, 61, 62, 63, 64, 65, 66, 67, 68, 69] (by decide +kernel) (by decide +kernel)
set_option maxRecDepth 20000 in
theorem gX5_contest_X5_mix : GoodIn wsX5_contest (wsV RX5 123 RX5 yX5_mix wsX5_mix) := goodIn_app (goodIn_of _ (by decide +kernel)) ggX5_contest_X5_mix
set_option maxRecDepth 20000 in
theorem ggX5_contest_X5_heats : GoodIn wsX5_contest wsX5_heats := goodIn_r _ [25, 7, 19, 3, 26, 27, 28, 29, 30, 31, 32, 33, 34, 35, 36, 37, 38, 39, 40, 41, 42, 43, 44, 45, 46, 47, 48, 49, 50, 51, 52, 53, 54, 55, 56, 57, 58, 59, 60, 61, 62, 63, 64, 65, 66, 67, 68, 69] (by decide +kernel) (by decide +kernel)
set_option maxRecDepth 20000 in
theorem gX5_contest_X5_heats : GoodIn wsX5_contest (wsV RX5 126 RX5 yX5_heats wsX5_heats) := goodIn_app (goodIn_of _ (by decide +kernel)) ggX5_contest_X5_heats
theorem dX5_contest_0 : decode cX5_contest 0 = .ok (.iload_n 1, 1) := by decide +kernel
theorem dX5_contest_1 : decode cX5_contest 1 = .ok (.iconst 0, 1) := by decide +kernel
theorem dX5_contest_2 : decode cX5_contest 2 = .ok (.iconst 1, 1) := by decide +kernel
theorem dX5_contest_3 : decode cX5_contest 3 = .ok (.invokestatic 96, 3) := by decide +kernel
theorem dX5_contest_6 : decode cX5_contest 6 = .ok (.ifCond .eq 24, 3) := by decide +kernel
theorem dX5_contest_9 : decode cX5_contest 9 = .ok (.iload_n 1, 1) := by decide +kernel
theorem dX5_contest_10 : decode cX5_contest 10 = .ok (.ifCond .ne 13, 3) := by decide +kernel
theorem dX5_contest_13 : decode cX5_contest 13 = .ok (.iload_n 2, 1) := by decide +kernel
theorem dX5_contest_14 : decode cX5_contest 14 = .ok (.iconst 2, 1) := by decide +kernel
theorem dX5_contest_15 : decode cX5_contest 15 = .ok (.bipush 6, 2) := by decide +kernel
theorem dX5_contest_17 : decode cX5_contest 17 = .ok (.invokestatic 96, 3) := by decide +kernel
theorem dX5_contest_20 : decode cX5_contest 20 = .ok (.ifCond .eq 10, 3) := by decide +kernel
theorem dX5_contest_23 : decode cX5_contest 23 = .ok (.aload_n 0, 1) := by decide +kernel
theorem dX5_contest_24 : decode cX5_contest 24 = .ok (.getfield 100, 3) := by decide +kernel
theorem dX5_contest_27 : decode cX5_contest 27 = .ok (.ifCond .ne 5, 3) := by decide +kernel
theorem dX5_contest_30 : decode cX5_contest 30 = .ok (.iconst (-1), 1) := by decide +kernel
theorem dX5_contest_31 : decode cX5_contest 31 = .ok (.ireturn, 1) := by decide +kernel
theorem dX5_contest_32 : decode cX5_contest 32 = .ok (.aload_n 0, 1) := by decide +kernel
theorem dX5_contest_33 : decode cX5_contest 33 = .ok (.iconst 1, 1) := by decide +kernel
theorem dX5_contest_34 : decode cX5_contest 34 = .ok (.putfield 116, 3) := by decide +kernel
theorem dX5_contest_37 : decode cX5_contest 37 = .ok (.aload_n 0, 1) := by decide +kernel
theorem dX5_contest_38 : decode cX5_contest 38 = .ok (.iload_n 1, 1) := by decide +kernel
theorem dX5_contest_39 : decode cX5_contest 39 = .ok (.ifCond .ne 7, 3) := by decide +kernel
theorem dX5_contest_42 : decode cX5_contest 42 = .ok (.iload_n 2, 1) := by decide +kernel
theorem dX5_contest_43 : decode cX5_contest 43 = .ok (.goto 4, 3) := by decide +kernel
theorem dX5_contest_46 : decode cX5_contest 46 = .ok (.iconst 2, 1) := by decide +kernel
theorem dX5_contest_47 : decode cX5_contest 47 = .ok (.putfield 109, 3) := by decide +kernel
theorem dX5_contest_50 : decode cX5_contest 50 = .ok (.aload_n 0, 1) := by decide +kernel
theorem dX5_contest_51 : decode cX5_contest 51 = .ok (.iload_n 3, 1) := by decide +kernel
theorem dX5_contest_52 : decode cX5_contest 52 = .ok (.putfield 112, 3) := by decide +kernel
theorem dX5_contest_55 : decode cX5_contest 55 = .ok (.aload_n 0, 1) := by decide +kernel
theorem dX5_contest_56 : decode cX5_contest 56 = .ok (.iconst 1, 1) := by decide +kernel
theorem dX5_contest_57 : decode cX5_contest 57 = .ok (.putfield 120, 3) := by decide +kernel
theorem dX5_contest_60 : decode cX5_contest 60 = .ok (.aload_n 0, 1) := by decide +kernel
theorem dX5_contest_61 : decode cX5_contest 61 = .ok (.iconst (-1), 1) := by decide +kernel
theorem dX5_contest_62 : decode cX5_contest 62 = .ok (.putfield 33, 3) := by decide +kernel
theorem dX5_contest_65 : decode cX5_contest 65 = .ok (.aload_n 0, 1) := by decide +kernel
theorem dX5_contest_66 : decode cX5_contest 66 = .ok (.aload_n 0, 1) := by decide +kernel
theorem dX5_contest_67 : decode cX5_contest 67 = .ok (.getfield 100, 3) := by decide +kernel
theorem dX5_contest_70 : decode cX5_contest 70 = .ok (.putfield 106, 3) := by decide +kernel
theorem dX5_contest_73 : decode cX5_contest 73 = .ok (.iconst 0, 1) := by decide +kernel
theorem dX5_contest_74 : decode cX5_contest 74 = .ok (.istore 4, 2) := by decide +kernel
theorem dX5_contest_76 : decode cX5_contest 76 = .ok (.iload 4, 2) := by decide +kernel
theorem dX5_contest_78 : decode cX5_contest 78 = .ok (.aload_n 0, 1) := by decide +kernel
theorem dX5_contest_79 : decode cX5_contest 79 = .ok (.getfield 100, 3) := by decide +kernel
theorem dX5_contest_82 : decode cX5_contest 82 = .ok (.if_icmp .ge 18, 3) := by decide +kernel
theorem dX5_contest_85 : decode cX5_contest 85 = .ok (.aload_n 0, 1) := by decide +kernel
theorem dX5_contest_86 : decode cX5_contest 86 = .ok (.getfield 16, 3) := by decide +kernel
theorem dX5_contest_89 : decode cX5_contest 89 = .ok (.iload 4, 2) := by decide +kernel
theorem dX5_contest_91 : decode cX5_contest 91 = .ok (.iload 4, 2) := by decide +kernel
theorem dX5_contest_93 : decode cX5_contest 93 = .ok (.iastore, 1) := by decide +kernel
theorem dX5_contest_94 : decode cX5_contest 94 = .ok (.iinc 4 1, 3) := by decide +kernel
theorem dX5_contest_97 : decode cX5_contest 97 = .ok (.goto (-21), 3) := by decide +kernel
theorem dX5_contest_100 : decode cX5_contest 100 = .ok (.iconst 0, 1) := by decide +kernel
theorem dX5_contest_101 : decode cX5_contest 101 = .ok (.istore 4, 2) := by decide +kernel
theorem dX5_contest_103 : decode cX5_contest 103 = .ok (.iload 4, 2) := by decide +kernel
theorem dX5_contest_105 : decode cX5_contest 105 = .ok (.bipush 24, 2) := by decide +kernel
theorem dX5_contest_107 : decode cX5_contest 107 = .ok (.if_icmp .ge 17, 3) := by decide +kernel
theorem dX5_contest_110 : decode cX5_contest 110 = .ok (.aload_n 0, 1) := by decide +kernel
theorem dX5_contest_111 : decode cX5_contest 111 = .ok (.getfield 23, 3) := by decide +kernel
theorem dX5_contest_114 : decode cX5_contest 114 = .ok (.iload 4, 2) := by decide +kernel
theorem dX5_contest_116 : decode cX5_contest 116 = .ok (.iconst 0, 1) := by decide +kernel
theorem dX5_contest_117 : decode cX5_contest 117 = .ok (.bastore, 1) := by decide +kernel
theorem dX5_contest_118 : decode cX5_contest 118 = .ok (.iinc 4 1, 3) := by decide +kernel
theorem dX5_contest_121 : decode cX5_contest 121 = .ok (.goto (-18), 3) := by decide +kernel
theorem dX5_contest_124 : decode cX5_contest 124 = .ok (.aload_n 0, 1) := by decide +kernel
theorem dX5_contest_125 : decode cX5_contest 125 = .ok (.invokevirtual 123, 3) := by decide +kernel
theorem dX5_contest_128 : decode cX5_contest 128 = .ok (.aload_n 0, 1) := by decide +kernel
theorem dX5_contest_129 : decode cX5_contest 129 = .ok (.invokevirtual 126, 3) := by decide +kernel
theorem dX5_contest_132 : decode cX5_contest 132 = .ok (.ireturn, 1) := by decide +kernel
theorem dX5_inHeat_0 : decode cX5_inHeat 0 = .ok (.aload_n 0, 1) := by decide +kernel
theorem dX5_inHeat_1 : decode cX5_inHeat 1 = .ok (.getfield 106, 3) := by decide +kernel
theorem dX5_inHeat_4 : decode cX5_inHeat 4 = .ok (.aload_n 0, 1) := by decide +kernel
theorem dX5_inHeat_5 : decode cX5_inHeat 5 = .ok (.getfield 19, 3) := by decide +kernel
theorem dX5_inHeat_8 : decode cX5_inHeat 8 = .ok (.iconst (-1), 1) := by decide +kernel
theorem dX5_inHeat_9 : decode cX5_inHeat 9 = .ok (.if_icmp .ne 7, 3) := by decide +kernel
theorem dX5_inHeat_12 : decode cX5_inHeat 12 = .ok (.iconst 0, 1) := by decide +kernel
theorem dX5_inHeat_13 : decode cX5_inHeat 13 = .ok (.goto 4, 3) := by decide +kernel
theorem dX5_inHeat_16 : decode cX5_inHeat 16 = .ok (.iconst 1, 1) := by decide +kernel
theorem dX5_inHeat_17 : decode cX5_inHeat 17 = .ok (.isub, 1) := by decide +kernel
theorem dX5_inHeat_18 : decode cX5_inHeat 18 = .ok (.iload_n 1, 1) := by decide +kernel
theorem dX5_inHeat_19 : decode cX5_inHeat 19 = .ok (.aload_n 0, 1) := by decide +kernel
theorem dX5_inHeat_20 : decode cX5_inHeat 20 = .ok (.getfield 109, 3) := by decide +kernel
theorem dX5_inHeat_23 : decode cX5_inHeat 23 = .ok (.imul, 1) := by decide +kernel
theorem dX5_inHeat_24 : decode cX5_inHeat 24 = .ok (.isub, 1) := by decide +kernel
theorem dX5_inHeat_25 : decode cX5_inHeat 25 = .ok (.istore_n 2, 1) := by decide +kernel
theorem dX5_inHeat_26 : decode cX5_inHeat 26 = .ok (.iload_n 2, 1) := by decide +kernel
theorem dX5_inHeat_27 : decode cX5_inHeat 27 = .ok (.aload_n 0, 1) := by decide +kernel
theorem dX5_inHeat_28 : decode cX5_inHeat 28 = .ok (.getfield 109, 3) := by decide +kernel
theorem dX5_inHeat_31 : decode cX5_inHeat 31 = .ok (.if_icmp .ge 7, 3) := by decide +kernel
theorem dX5_inHeat_34 : decode cX5_inHeat 34 = .ok (.iload_n 2, 1) := by decide +kernel
theorem dX5_inHeat_35 : decode cX5_inHeat 35 = .ok (.goto 7, 3) := by decide +kernel
theorem dX5_inHeat_38 : decode cX5_inHeat 38 = .ok (.aload_n 0, 1) := by decide +kernel
theorem dX5_inHeat_39 : decode cX5_inHeat 39 = .ok (.getfield 109, 3) := by decide +kernel
theorem dX5_inHeat_42 : decode cX5_inHeat 42 = .ok (.ireturn, 1) := by decide +kernel
set_option maxRecDepth 20000 in
theorem ggX5_isHeat_X5_heats : GoodIn wsX5_isHeat wsX5_heats := goodIn_r _ [6, 7, 8, 9, 13, 14, 15, 16, 17, 18, 19, 20, 21, 22, 23, 24, 25, 26, 27, 28, 29, 30, 31, 32, 33, 34, 35, 36, 37, 38, 39, 40, 41, 42, 43, 44, 45, 46, 47, 48, 49, 50, 51, 52, 53, 54, 55, 56] (by decide +kernel) (by decide +kernel)
set_option maxRecDepth 20000 in
theorem gX5_isHeat_X5_heats : GoodIn wsX5_isHeat (wsV RX5 126 RX5 yX5_heats wsX5_heats) := goodIn_app (goodIn_of _ (by decide +kernel)) ggX5_isHeat_X5_heats
set_option maxRecDepth 20000 in
theorem ggX5_isHeat_X5_in : GoodIn wsX5_isHeat wsX5_in := goodIn_r _ [12] (by decide +kernel) (by decide +kernel)
set_option maxRecDepth 20000 in
theorem gX5_isHeat_X5_in : GoodIn wsX5_isHeat (va_wsS RX5 96 yX5_in wsX5_in) := goodIn_app (goodIn_of _ (by decide +kernel)) ggX5_isHeat_X5_in
theorem dX5_isHeat_0 : decode cX5_isHeat 0 = .ok (.aload_n 0, 1) := by decide +kernel
theorem dX5_isHeat_1 : decode cX5_isHeat 1 = .ok (.getfield 120, 3) := by decide +kernel
theorem dX5_isHeat_4 : decode cX5_isHeat 4 = .ok (.ifCond .le 21, 3) := by decide +kernel
theorem dX5_isHeat_7 : decode cX5_isHeat 7 = .ok (.iload_n 1, 1) := by decide +kernel
theorem dX5_isHeat_8 : decode cX5_isHeat 8 = .ok (.iconst 0, 1) := by decide +kernel
theorem dX5_isHeat_9 : decode cX5_isHeat 9 = .ok (.aload_n 0, 1) := by decide +kernel
theorem dX5_isHeat_10 : decode cX5_isHeat 10 = .ok (.invokevirtual 126, 3) := by decide +kernel
theorem dX5_isHeat_13 : decode cX5_isHeat 13 = .ok (.iconst 1, 1) := by decide +kernel
theorem dX5_isHeat_14 : decode cX5_isHeat 14 = .ok (.isub, 1) := by decide +kernel
theorem dX5_isHeat_15 : decode cX5_isHeat 15 = .ok (.invokestatic 96, 3) := by decide +kernel
theorem dX5_isHeat_18 : decode cX5_isHeat 18 = .ok (.ifCond .eq 7, 3) := by decide +kernel
theorem dX5_isHeat_21 : decode cX5_isHeat 21 = .ok (.iconst 1, 1) := by decide +kernel
theorem dX5_isHeat_22 : decode cX5_isHeat 22 = .ok (.goto 4, 3) := by decide +kernel
theorem dX5_isHeat_25 : decode cX5_isHeat 25 = .ok (.iconst 0, 1) := by decide +kernel
theorem dX5_isHeat_26 : decode cX5_isHeat 26 = .ok (.ireturn, 1) := by decide +kernel
theorem dX5_heat_0 : decode cX5_heat 0 = .ok (.aload_n 0, 1) := by decide +kernel
theorem dX5_heat_1 : decode cX5_heat 1 = .ok (.getfield 116, 3) := by decide +kernel
theorem dX5_heat_4 : decode cX5_heat 4 = .ok (.ifCond .ne 5, 3) := by decide +kernel
theorem dX5_heat_7 : decode cX5_heat 7 = .ok (.iconst (-1), 1) := by decide +kernel
theorem dX5_heat_8 : decode cX5_heat 8 = .ok (.ireturn, 1) := by decide +kernel
theorem dX5_heat_9 : decode cX5_heat 9 = .ok (.iconst 0, 1) := by decide +kernel
theorem dX5_heat_10 : decode cX5_heat 10 = .ok (.istore_n 2, 1) := by decide +kernel
theorem dX5_heat_11 : decode cX5_heat 11 = .ok (.iload_n 2, 1) := by decide +kernel
theorem dX5_heat_12 : decode cX5_heat 12 = .ok (.aload_n 0, 1) := by decide +kernel
theorem dX5_heat_13 : decode cX5_heat 13 = .ok (.getfield 106, 3) := by decide +kernel
theorem dX5_heat_16 : decode cX5_heat 16 = .ok (.if_icmp .ge 38, 3) := by decide +kernel
theorem dX5_heat_19 : decode cX5_heat 19 = .ok (.aload_n 0, 1) := by decide +kernel
theorem dX5_heat_20 : decode cX5_heat 20 = .ok (.getfield 16, 3) := by decide +kernel
theorem dX5_heat_23 : decode cX5_heat 23 = .ok (.iload_n 2, 1) := by decide +kernel
theorem dX5_heat_24 : decode cX5_heat 24 = .ok (.iaload, 1) := by decide +kernel
theorem dX5_heat_25 : decode cX5_heat 25 = .ok (.iload_n 1, 1) := by decide +kernel
theorem dX5_heat_26 : decode cX5_heat 26 = .ok (.if_icmp .ne 22, 3) := by decide +kernel
theorem dX5_heat_29 : decode cX5_heat 29 = .ok (.iload_n 1, 1) := by decide +kernel
theorem dX5_heat_30 : decode cX5_heat 30 = .ok (.aload_n 0, 1) := by decide +kernel
theorem dX5_heat_31 : decode cX5_heat 31 = .ok (.getfield 19, 3) := by decide +kernel
theorem dX5_heat_34 : decode cX5_heat 34 = .ok (.if_icmp .ne 7, 3) := by decide +kernel
theorem dX5_heat_37 : decode cX5_heat 37 = .ok (.iconst (-1), 1) := by decide +kernel
theorem dX5_heat_38 : decode cX5_heat 38 = .ok (.goto 9, 3) := by decide +kernel
theorem dX5_heat_41 : decode cX5_heat 41 = .ok (.iload_n 2, 1) := by decide +kernel
theorem dX5_heat_42 : decode cX5_heat 42 = .ok (.aload_n 0, 1) := by decide +kernel
theorem dX5_heat_43 : decode cX5_heat 43 = .ok (.getfield 109, 3) := by decide +kernel
theorem dX5_heat_46 : decode cX5_heat 46 = .ok (.idiv, 1) := by decide +kernel
theorem dX5_heat_47 : decode cX5_heat 47 = .ok (.ireturn, 1) := by decide +kernel
theorem dX5_heat_48 : decode cX5_heat 48 = .ok (.iinc 2 1, 3) := by decide +kernel
theorem dX5_heat_51 : decode cX5_heat 51 = .ok (.goto (-40), 3) := by decide +kernel
theorem dX5_heat_54 : decode cX5_heat 54 = .ok (.iconst (-1), 1) := by decide +kernel
theorem dX5_heat_55 : decode cX5_heat 55 = .ok (.ireturn, 1) := by decide +kernel
set_option maxRecDepth 20000 in
theorem ggX5_lane_X5_isHeat : GoodIn wsX5_lane wsX5_isHeat := goodIn_r _ [7, 8, 9, 10, 11, 6, 12, 13, 14, 2, 15, 16, 17, 22, 23, 24, 25, 26, 27, 28, 29, 30, 31, 32, 33, 34, 35, 36, 37, 38, 39, 40, 41, 42, 43, 44, 45, 46, 47, 48, 49, 50, 51, 52, 53, 54, 55, 56, 57, 58, 59, 60, 61, 62, 63, 64, 65] (by decide +kernel) (by decide +kernel)
set_option maxRecDepth 20000 in
theorem gX5_lane_X5_isHeat : GoodIn wsX5_lane (wsV RX5 130 RX5 yX5_isHeat wsX5_isHeat) := goodIn_app (goodIn_of _ (by decide +kernel)) ggX5_lane_X5_isHeat
set_option maxRecDepth 20000 in
theorem ggX5_lane_X5_inHeat : GoodIn wsX5_lane wsX5_inHeat := goodIn_r _ [21, 13, 14, 2, 22, 23, 24, 25, 26, 27, 28, 29, 30, 31, 32, 33, 34, 35, 36, 37, 38, 39, 40, 41, 42, 43, 44, 45, 46, 47, 48, 49, 50, 51, 52, 53, 54, 55, 56, 57, 58, 59, 60, 61, 62, 63, 64, 65] (by decide +kernel) (by decide +kernel)
set_option maxRecDepth 20000 in
theorem gX5_lane_X5_inHeat : GoodIn wsX5_lane (wsV RX5 134 RX5 yX5_inHeat wsX5_inHeat) := goodIn_app (goodIn_of _ (by decide +kernel)) ggX5_lane_X5_inHeat
set_option maxRecDepth 20000 in
theorem ggX5_lane_X5_in : GoodIn wsX5_lane wsX5_in := goodIn_r _ [17] (by decide +kernel) (by decide +kernel)
set_option maxRecDepth 20000 in
theorem gX5_lane_X5_in : GoodIn wsX5_lane (va_wsS RX5 96 yX5_in wsX5_in) := goodIn_app (goodIn_of _ (by decide +kernel)) ggX5_lane_X5_in
theorem dX5_lane_0 : decode cX5_lane 0 = .ok (.aload_n 0, 1) := by decide +kernel
theorem dX5_lane_1 : decode cX5_lane 1 = .ok (.iload_n 1, 1) := by decide +kernel
theorem dX5_lane_2 : decode cX5_lane 2 = .ok (.invokevirtual 130, 3) := by decide +kernel
theorem dX5_lane_5 : decode cX5_lane 5 = .ok (.ifCond .eq 34, 3) := by decide +kernel
theorem dX5_lane_8 : decode cX5_lane 8 = .ok (.iload_n 2, 1) := by decide +kernel
theorem dX5_lane_9 : decode cX5_lane 9 = .ok (.iconst 0, 1) := by decide +kernel
theorem dX5_lane_10 : decode cX5_lane 10 = .ok (.aload_n 0, 1) := by decide +kernel
theorem dX5_lane_11 : decode cX5_lane 11 = .ok (.iload_n 1, 1) := by decide +kernel
theorem dX5_lane_12 : decode cX5_lane 12 = .ok (.invokevirtual 134, 3) := by decide +kernel
theorem dX5_lane_15 : decode cX5_lane 15 = .ok (.iconst 1, 1) := by decide +kernel
theorem dX5_lane_16 : decode cX5_lane 16 = .ok (.isub, 1) := by decide +kernel
theorem dX5_lane_17 : decode cX5_lane 17 = .ok (.invokestatic 96, 3) := by decide +kernel
theorem dX5_lane_20 : decode cX5_lane 20 = .ok (.ifCond .eq 19, 3) := by decide +kernel
theorem dX5_lane_23 : decode cX5_lane 23 = .ok (.aload_n 0, 1) := by decide +kernel
theorem dX5_lane_24 : decode cX5_lane 24 = .ok (.getfield 16, 3) := by decide +kernel
theorem dX5_lane_27 : decode cX5_lane 27 = .ok (.iload_n 1, 1) := by decide +kernel
theorem dX5_lane_28 : decode cX5_lane 28 = .ok (.aload_n 0, 1) := by decide +kernel
theorem dX5_lane_29 : decode cX5_lane 29 = .ok (.getfield 109, 3) := by decide +kernel
theorem dX5_lane_32 : decode cX5_lane 32 = .ok (.imul, 1) := by decide +kernel
theorem dX5_lane_33 : decode cX5_lane 33 = .ok (.iload_n 2, 1) := by decide +kernel
theorem dX5_lane_34 : decode cX5_lane 34 = .ok (.iadd, 1) := by decide +kernel
theorem dX5_lane_35 : decode cX5_lane 35 = .ok (.iaload, 1) := by decide +kernel
theorem dX5_lane_36 : decode cX5_lane 36 = .ok (.goto 4, 3) := by decide +kernel
theorem dX5_lane_39 : decode cX5_lane 39 = .ok (.iconst (-1), 1) := by decide +kernel
theorem dX5_lane_40 : decode cX5_lane 40 = .ok (.ireturn, 1) := by decide +kernel
set_option maxRecDepth 20000 in
theorem ggX5_open_X5_heats : GoodIn wsX5_open wsX5_heats := goodIn_r _ [6, 7, 8, 9, 10, 11, 12, 13, 14, 15, 16, 17, 18, 19, 20, 21, 22, 23, 24, 25, 26, 27, 28, 29, 30, 31, 32, 33, 34, 35, 36, 37, 38, 39, 40, 41, 42, 43, 44, 45, 46, 47, 48, 49, 50, 51, 52, 53] (by decide +kernel) (by decide +kernel)
set_option maxRecDepth 20000 in
theorem gX5_open_X5_heats : GoodIn wsX5_open (wsV RX5 126 RX5 yX5_heats wsX5_heats) := goodIn_app (goodIn_of _ (by decide +kernel)) ggX5_open_X5_heats
theorem dX5_open_0 : decode cX5_open 0 = .ok (.iconst 0, 1) := by decide +kernel
theorem dX5_open_1 : decode cX5_open 1 = .ok (.istore_n 1, 1) := by decide +kernel
theorem dX5_open_2 : decode cX5_open 2 = .ok (.iconst 0, 1) := by decide +kernel
theorem dX5_open_3 : decode cX5_open 3 = .ok (.istore_n 2, 1) := by decide +kernel
theorem dX5_open_4 : decode cX5_open 4 = .ok (.iload_n 2, 1) := by decide +kernel
theorem dX5_open_5 : decode cX5_open 5 = .ok (.aload_n 0, 1) := by decide +kernel
theorem dX5_open_6 : decode cX5_open 6 = .ok (.invokevirtual 126, 3) := by decide +kernel
theorem dX5_open_9 : decode cX5_open 9 = .ok (.if_icmp .ge 22, 3) := by decide +kernel
theorem dX5_open_12 : decode cX5_open 12 = .ok (.aload_n 0, 1) := by decide +kernel
theorem dX5_open_13 : decode cX5_open 13 = .ok (.getfield 27, 3) := by decide +kernel
theorem dX5_open_16 : decode cX5_open 16 = .ok (.iload_n 2, 1) := by decide +kernel
theorem dX5_open_17 : decode cX5_open 17 = .ok (.iaload, 1) := by decide +kernel
theorem dX5_open_18 : decode cX5_open 18 = .ok (.iconst (-1), 1) := by decide +kernel
theorem dX5_open_19 : decode cX5_open 19 = .ok (.if_icmp .ne 6, 3) := by decide +kernel
theorem dX5_open_22 : decode cX5_open 22 = .ok (.iinc 1 1, 3) := by decide +kernel
theorem dX5_open_25 : decode cX5_open 25 = .ok (.iinc 2 1, 3) := by decide +kernel
theorem dX5_open_28 : decode cX5_open 28 = .ok (.goto (-24), 3) := by decide +kernel
theorem dX5_open_31 : decode cX5_open 31 = .ok (.iload_n 1, 1) := by decide +kernel
theorem dX5_open_32 : decode cX5_open 32 = .ok (.ireturn, 1) := by decide +kernel
set_option maxRecDepth 20000 in
theorem ggX5_count_X5_heats : GoodIn wsX5_count wsX5_heats := goodIn_r _ [11, 12, 4, 13, 19, 20, 21, 22, 23, 24, 25, 26, 27, 28, 29, 30, 31, 32, 33, 34, 35, 36, 37, 38, 39, 40, 41, 42, 43, 44, 45, 46, 47, 48, 49, 50, 51, 52, 53, 54, 55, 56, 57, 58, 59, 60, 61, 62] (by decide +kernel) (by decide +kernel)
set_option maxRecDepth 20000 in
theorem gX5_count_X5_heats : GoodIn wsX5_count (wsV RX5 126 RX5 yX5_heats wsX5_heats) := goodIn_app (goodIn_of _ (by decide +kernel)) ggX5_count_X5_heats
set_option maxRecDepth 20000 in
theorem ggX5_count_X5_open : GoodIn wsX5_count wsX5_open := goodIn_r _ [17, 18, 7, 8, 9, 10, 11, 12, 4, 13, 19, 20, 21, 22, 23, 24, 25, 26, 27, 28, 29, 30, 31, 32, 33, 34, 35, 36, 37, 38, 39, 40, 41, 42, 43, 44, 45, 46, 47, 48, 49, 50, 51, 52, 53, 54, 55, 56, 57, 58, 59, 60, 61, 62] (by decide +kernel) (by decide +kernel)
set_option maxRecDepth 20000 in
theorem gX5_count_X5_open : GoodIn wsX5_count (wsV RX5 138 RX5 yX5_open wsX5_open) := goodIn_app (goodIn_of _ (by decide +kernel)) ggX5_count_X5_open
theorem dX5_count_0 : decode cX5_count 0 = .ok (.iload_n 1, 1) := by decide +kernel
theorem dX5_count_1 : decode cX5_count 1 = .ok (.tableswitch 120 0 7 #[47, 52, 57, 62, 78, 94, 99, 104], 47) := by decide +kernel
theorem dX5_count_48 : decode cX5_count 48 = .ok (.aload_n 0, 1) := by decide +kernel
theorem dX5_count_49 : decode cX5_count 49 = .ok (.getfield 100, 3) := by decide +kernel
theorem dX5_count_52 : decode cX5_count 52 = .ok (.ireturn, 1) := by decide +kernel
theorem dX5_count_53 : decode cX5_count 53 = .ok (.aload_n 0, 1) := by decide +kernel
theorem dX5_count_54 : decode cX5_count 54 = .ok (.getfield 103, 3) := by decide +kernel
theorem dX5_count_57 : decode cX5_count 57 = .ok (.ireturn, 1) := by decide +kernel
theorem dX5_count_58 : decode cX5_count 58 = .ok (.aload_n 0, 1) := by decide +kernel
theorem dX5_count_59 : decode cX5_count 59 = .ok (.getfield 120, 3) := by decide +kernel
theorem dX5_count_62 : decode cX5_count 62 = .ok (.ireturn, 1) := by decide +kernel
theorem dX5_count_63 : decode cX5_count 63 = .ok (.aload_n 0, 1) := by decide +kernel
theorem dX5_count_64 : decode cX5_count 64 = .ok (.getfield 120, 3) := by decide +kernel
theorem dX5_count_67 : decode cX5_count 67 = .ok (.ifCond .ne 7, 3) := by decide +kernel
theorem dX5_count_70 : decode cX5_count 70 = .ok (.iconst 0, 1) := by decide +kernel
theorem dX5_count_71 : decode cX5_count 71 = .ok (.goto 7, 3) := by decide +kernel
theorem dX5_count_74 : decode cX5_count 74 = .ok (.aload_n 0, 1) := by decide +kernel
theorem dX5_count_75 : decode cX5_count 75 = .ok (.invokevirtual 126, 3) := by decide +kernel
theorem dX5_count_78 : decode cX5_count 78 = .ok (.ireturn, 1) := by decide +kernel
theorem dX5_count_79 : decode cX5_count 79 = .ok (.aload_n 0, 1) := by decide +kernel
theorem dX5_count_80 : decode cX5_count 80 = .ok (.getfield 120, 3) := by decide +kernel
theorem dX5_count_83 : decode cX5_count 83 = .ok (.ifCond .ne 7, 3) := by decide +kernel
theorem dX5_count_86 : decode cX5_count 86 = .ok (.iconst (-1), 1) := by decide +kernel
theorem dX5_count_87 : decode cX5_count 87 = .ok (.goto 7, 3) := by decide +kernel
theorem dX5_count_90 : decode cX5_count 90 = .ok (.aload_n 0, 1) := by decide +kernel
theorem dX5_count_91 : decode cX5_count 91 = .ok (.getfield 19, 3) := by decide +kernel
theorem dX5_count_94 : decode cX5_count 94 = .ok (.ireturn, 1) := by decide +kernel
theorem dX5_count_95 : decode cX5_count 95 = .ok (.aload_n 0, 1) := by decide +kernel
theorem dX5_count_96 : decode cX5_count 96 = .ok (.getfield 33, 3) := by decide +kernel
theorem dX5_count_99 : decode cX5_count 99 = .ok (.ireturn, 1) := by decide +kernel
theorem dX5_count_100 : decode cX5_count 100 = .ok (.aload_n 0, 1) := by decide +kernel
theorem dX5_count_101 : decode cX5_count 101 = .ok (.getfield 112, 3) := by decide +kernel
theorem dX5_count_104 : decode cX5_count 104 = .ok (.ireturn, 1) := by decide +kernel
theorem dX5_count_105 : decode cX5_count 105 = .ok (.aload_n 0, 1) := by decide +kernel
theorem dX5_count_106 : decode cX5_count 106 = .ok (.getfield 120, 3) := by decide +kernel
theorem dX5_count_109 : decode cX5_count 109 = .ok (.ifCond .ne 7, 3) := by decide +kernel
theorem dX5_count_112 : decode cX5_count 112 = .ok (.iconst 0, 1) := by decide +kernel
theorem dX5_count_113 : decode cX5_count 113 = .ok (.goto 7, 3) := by decide +kernel
theorem dX5_count_116 : decode cX5_count 116 = .ok (.aload_n 0, 1) := by decide +kernel
theorem dX5_count_117 : decode cX5_count 117 = .ok (.invokevirtual 138, 3) := by decide +kernel
theorem dX5_count_120 : decode cX5_count 120 = .ok (.ireturn, 1) := by decide +kernel
theorem dX5_count_121 : decode cX5_count 121 = .ok (.iconst (-1), 1) := by decide +kernel
theorem dX5_count_122 : decode cX5_count 122 = .ok (.ireturn, 1) := by decide +kernel
set_option maxRecDepth 20000 in
theorem ggX5_isIn_X5_isHeat : GoodIn wsX5_isIn wsX5_isHeat := goodIn_r _ [8, 9, 10, 11, 12, 7, 13, 14, 15, 3, 16, 17, 18, 23, 24, 25, 26, 27, 28, 29, 30, 31, 32, 33, 34, 35, 36, 37, 38, 39, 40, 41, 42, 43, 44, 45, 46, 47, 48, 49, 50, 51, 52, 53, 54, 55, 56, 57, 58, 59, 60, 61, 62, 63, 64, 65, 66] (by decide +kernel) (by decide +kernel)
set_option maxRecDepth 20000 in
theorem gX5_isIn_X5_isHeat : GoodIn wsX5_isIn (wsV RX5 130 RX5 yX5_isHeat wsX5_isHeat) := goodIn_app (goodIn_of _ (by decide +kernel)) ggX5_isIn_X5_isHeat
set_option maxRecDepth 20000 in
theorem ggX5_isIn_X5_inHeat : GoodIn wsX5_isIn wsX5_inHeat := goodIn_r _ [22, 14, 15, 3, 23, 24, 25, 26, 27, 28, 29, 30, 31, 32, 33, 34, 35, 36, 37, 38, 39, 40, 41, 42, 43, 44, 45, 46, 47, 48, 49, 50, 51, 52, 53, 54, 55, 56, 57, 58, 59, 60, 61, 62, 63, 64, 65, 66] (by decide +kernel) (by decide +kernel)
set_option maxRecDepth 20000 in
theorem gX5_isIn_X5_inHeat : GoodIn wsX5_isIn (wsV RX5 134 RX5 yX5_inHeat wsX5_inHeat) := goodIn_app (goodIn_of _ (by decide +kernel)) ggX5_isIn_X5_inHeat
theorem dX5_isIn_0 : decode cX5_isIn 0 = .ok (.aload_n 0, 1) := by decide +kernel
theorem dX5_isIn_1 : decode cX5_isIn 1 = .ok (.getfield 116, 3) := by decide +kernel
theorem dX5_isIn_4 : decode cX5_isIn 4 = .ok (.ifCond .eq 11, 3) := by decide +kernel
theorem dX5_isIn_7 : decode cX5_isIn 7 = .ok (.aload_n 0, 1) := by decide +kernel
theorem dX5_isIn_8 : decode cX5_isIn 8 = .ok (.iload_n 1, 1) := by decide +kernel
theorem dX5_isIn_9 : decode cX5_isIn 9 = .ok (.invokevirtual 130, 3) := by decide +kernel
theorem dX5_isIn_12 : decode cX5_isIn 12 = .ok (.ifCond .ne 5, 3) := by decide +kernel
theorem dX5_isIn_15 : decode cX5_isIn 15 = .ok (.iconst 0, 1) := by decide +kernel
theorem dX5_isIn_16 : decode cX5_isIn 16 = .ok (.ireturn, 1) := by decide +kernel
theorem dX5_isIn_17 : decode cX5_isIn 17 = .ok (.iconst 0, 1) := by decide +kernel
theorem dX5_isIn_18 : decode cX5_isIn 18 = .ok (.istore_n 3, 1) := by decide +kernel
theorem dX5_isIn_19 : decode cX5_isIn 19 = .ok (.iload_n 3, 1) := by decide +kernel
theorem dX5_isIn_20 : decode cX5_isIn 20 = .ok (.aload_n 0, 1) := by decide +kernel
theorem dX5_isIn_21 : decode cX5_isIn 21 = .ok (.iload_n 1, 1) := by decide +kernel
theorem dX5_isIn_22 : decode cX5_isIn 22 = .ok (.invokevirtual 134, 3) := by decide +kernel
theorem dX5_isIn_25 : decode cX5_isIn 25 = .ok (.if_icmp .ge 28, 3) := by decide +kernel
theorem dX5_isIn_28 : decode cX5_isIn 28 = .ok (.aload_n 0, 1) := by decide +kernel
theorem dX5_isIn_29 : decode cX5_isIn 29 = .ok (.getfield 16, 3) := by decide +kernel
theorem dX5_isIn_32 : decode cX5_isIn 32 = .ok (.iload_n 1, 1) := by decide +kernel
theorem dX5_isIn_33 : decode cX5_isIn 33 = .ok (.aload_n 0, 1) := by decide +kernel
theorem dX5_isIn_34 : decode cX5_isIn 34 = .ok (.getfield 109, 3) := by decide +kernel
theorem dX5_isIn_37 : decode cX5_isIn 37 = .ok (.imul, 1) := by decide +kernel
theorem dX5_isIn_38 : decode cX5_isIn 38 = .ok (.iload_n 3, 1) := by decide +kernel
theorem dX5_isIn_39 : decode cX5_isIn 39 = .ok (.iadd, 1) := by decide +kernel
theorem dX5_isIn_40 : decode cX5_isIn 40 = .ok (.iaload, 1) := by decide +kernel
theorem dX5_isIn_41 : decode cX5_isIn 41 = .ok (.iload_n 2, 1) := by decide +kernel
theorem dX5_isIn_42 : decode cX5_isIn 42 = .ok (.if_icmp .ne 5, 3) := by decide +kernel
theorem dX5_isIn_45 : decode cX5_isIn 45 = .ok (.iconst 1, 1) := by decide +kernel
theorem dX5_isIn_46 : decode cX5_isIn 46 = .ok (.ireturn, 1) := by decide +kernel
theorem dX5_isIn_47 : decode cX5_isIn 47 = .ok (.iinc 3 1, 3) := by decide +kernel
theorem dX5_isIn_50 : decode cX5_isIn 50 = .ok (.goto (-31), 3) := by decide +kernel
theorem dX5_isIn_53 : decode cX5_isIn 53 = .ok (.iconst 0, 1) := by decide +kernel
theorem dX5_isIn_54 : decode cX5_isIn 54 = .ok (.ireturn, 1) := by decide +kernel
set_option maxRecDepth 20000 in
theorem ggX5_winner_X5_isIn : GoodIn wsX5_winner wsX5_isIn := goodIn_r _ [6, 7, 8, 9, 10, 11, 12, 5, 13, 14, 15, 16, 17, 18, 19, 20, 21, 22, 23, 24, 25, 26, 27, 28, 29, 30, 31, 32, 33, 34, 35, 36, 37, 38, 39, 40, 41, 42, 43, 44, 45, 46, 47, 48, 49, 50, 51, 52, 53, 54, 55, 56, 57, 58, 59, 60, 61, 62, 63, 64, 65, 66, 67, 68, 69, 70, 71] (by decide +kernel) (by decide +kernel)
set_option maxRecDepth 20000 in
theorem gX5_winner_X5_isIn : GoodIn wsX5_winner (wsV RX5 141 RX5 yX5_isIn wsX5_isIn) := goodIn_app (goodIn_of _ (by decide +kernel)) ggX5_winner_X5_isIn
theorem dX5_winner_0 : decode cX5_winner 0 = .ok (.aload_n 0, 1) := by decide +kernel
theorem dX5_winner_1 : decode cX5_winner 1 = .ok (.iload_n 1, 1) := by decide +kernel
theorem dX5_winner_2 : decode cX5_winner 2 = .ok (.iload_n 2, 1) := by decide +kernel
theorem dX5_winner_3 : decode cX5_winner 3 = .ok (.invokevirtual 141, 3) := by decide +kernel
theorem dX5_winner_6 : decode cX5_winner 6 = .ok (.ifCond .ne 5, 3) := by decide +kernel
theorem dX5_winner_9 : decode cX5_winner 9 = .ok (.iconst 0, 1) := by decide +kernel
theorem dX5_winner_10 : decode cX5_winner 10 = .ok (.ireturn, 1) := by decide +kernel
theorem dX5_winner_11 : decode cX5_winner 11 = .ok (.aload_n 0, 1) := by decide +kernel
theorem dX5_winner_12 : decode cX5_winner 12 = .ok (.getfield 27, 3) := by decide +kernel
theorem dX5_winner_15 : decode cX5_winner 15 = .ok (.iload_n 1, 1) := by decide +kernel
theorem dX5_winner_16 : decode cX5_winner 16 = .ok (.iload_n 2, 1) := by decide +kernel
theorem dX5_winner_17 : decode cX5_winner 17 = .ok (.iastore, 1) := by decide +kernel
theorem dX5_winner_18 : decode cX5_winner 18 = .ok (.iconst 1, 1) := by decide +kernel
theorem dX5_winner_19 : decode cX5_winner 19 = .ok (.ireturn, 1) := by decide +kernel
set_option maxRecDepth 20000 in
theorem ggX5_vote_X5_in : GoodIn wsX5_vote wsX5_in := goodIn_r _ [6] (by decide +kernel) (by decide +kernel)
set_option maxRecDepth 20000 in
theorem gX5_vote_X5_in : GoodIn wsX5_vote (va_wsS RX5 96 yX5_in wsX5_in) := goodIn_app (goodIn_of _ (by decide +kernel)) ggX5_vote_X5_in
set_option maxRecDepth 20000 in
theorem ggX5_vote_X5_isIn : GoodIn wsX5_vote wsX5_isIn := goodIn_r _ [10, 11, 12, 13, 14, 15, 16, 5, 17, 18, 19, 20, 21, 22, 23, 24, 3, 4, 6, 25, 26, 27, 28, 29, 30, 31, 32, 33, 34, 35, 36, 37, 38, 39, 40, 41, 42, 43, 44, 45, 46, 47, 48, 49, 50, 51, 52, 53, 54, 55, 56, 57, 58, 59, 60, 61, 62, 63, 64, 65, 66, 67, 68, 69, 70, 71, 72] (by decide +kernel) (by decide +kernel)
set_option maxRecDepth 20000 in
theorem gX5_vote_X5_isIn : GoodIn wsX5_vote (wsV RX5 141 RX5 yX5_isIn wsX5_isIn) := goodIn_app (goodIn_of _ (by decide +kernel)) ggX5_vote_X5_isIn
theorem dX5_vote_0 : decode cX5_vote 0 = .ok (.iload_n 1, 1) := by decide +kernel
theorem dX5_vote_1 : decode cX5_vote 1 = .ok (.iconst 0, 1) := by decide +kernel
theorem dX5_vote_2 : decode cX5_vote 2 = .ok (.aload_n 0, 1) := by decide +kernel
theorem dX5_vote_3 : decode cX5_vote 3 = .ok (.getfield 103, 3) := by decide +kernel
theorem dX5_vote_6 : decode cX5_vote 6 = .ok (.iconst 1, 1) := by decide +kernel
theorem dX5_vote_7 : decode cX5_vote 7 = .ok (.isub, 1) := by decide +kernel
theorem dX5_vote_8 : decode cX5_vote 8 = .ok (.invokestatic 96, 3) := by decide +kernel
theorem dX5_vote_11 : decode cX5_vote 11 = .ok (.ifCond .eq 12, 3) := by decide +kernel
theorem dX5_vote_14 : decode cX5_vote 14 = .ok (.aload_n 0, 1) := by decide +kernel
theorem dX5_vote_15 : decode cX5_vote 15 = .ok (.iload_n 2, 1) := by decide +kernel
theorem dX5_vote_16 : decode cX5_vote 16 = .ok (.iload_n 3, 1) := by decide +kernel
theorem dX5_vote_17 : decode cX5_vote 17 = .ok (.invokevirtual 141, 3) := by decide +kernel
theorem dX5_vote_20 : decode cX5_vote 20 = .ok (.ifCond .ne 5, 3) := by decide +kernel
theorem dX5_vote_23 : decode cX5_vote 23 = .ok (.iconst 0, 1) := by decide +kernel
theorem dX5_vote_24 : decode cX5_vote 24 = .ok (.ireturn, 1) := by decide +kernel
theorem dX5_vote_25 : decode cX5_vote 25 = .ok (.aload_n 0, 1) := by decide +kernel
theorem dX5_vote_26 : decode cX5_vote 26 = .ok (.getfield 30, 3) := by decide +kernel
theorem dX5_vote_29 : decode cX5_vote 29 = .ok (.bipush 24, 2) := by decide +kernel
theorem dX5_vote_31 : decode cX5_vote 31 = .ok (.iload_n 1, 1) := by decide +kernel
theorem dX5_vote_32 : decode cX5_vote 32 = .ok (.imul, 1) := by decide +kernel
theorem dX5_vote_33 : decode cX5_vote 33 = .ok (.iload_n 2, 1) := by decide +kernel
theorem dX5_vote_34 : decode cX5_vote 34 = .ok (.iadd, 1) := by decide +kernel
theorem dX5_vote_35 : decode cX5_vote 35 = .ok (.iload_n 3, 1) := by decide +kernel
theorem dX5_vote_36 : decode cX5_vote 36 = .ok (.iastore, 1) := by decide +kernel
theorem dX5_vote_37 : decode cX5_vote 37 = .ok (.iconst 1, 1) := by decide +kernel
theorem dX5_vote_38 : decode cX5_vote 38 = .ok (.ireturn, 1) := by decide +kernel
set_option maxRecDepth 20000 in
theorem ggX5_counts_X5_inHeat : GoodIn wsX5_counts wsX5_inHeat := goodIn_r _ [10, 11, 12, 3, 13, 14, 15, 16, 17, 18, 19, 20, 21, 22, 23, 24, 25, 26, 27, 28, 29, 30, 31, 32, 33, 34, 35, 36, 37, 38, 39, 40, 41, 42, 43, 44, 45, 46, 47, 48, 49, 50, 51, 52, 53, 54, 55, 56] (by decide +kernel) (by decide +kernel)
set_option maxRecDepth 20000 in
theorem gX5_counts_X5_inHeat : GoodIn wsX5_counts (wsV RX5 134 RX5 yX5_inHeat wsX5_inHeat) := goodIn_app (goodIn_of _ (by decide +kernel)) ggX5_counts_X5_inHeat
theorem dX5_counts_0 : decode cX5_counts 0 = .ok (.iconst 0, 1) := by decide +kernel
theorem dX5_counts_1 : decode cX5_counts 1 = .ok (.istore_n 3, 1) := by decide +kernel
theorem dX5_counts_2 : decode cX5_counts 2 = .ok (.iload_n 3, 1) := by decide +kernel
theorem dX5_counts_3 : decode cX5_counts 3 = .ok (.aload_n 0, 1) := by decide +kernel
theorem dX5_counts_4 : decode cX5_counts 4 = .ok (.iload_n 2, 1) := by decide +kernel
theorem dX5_counts_5 : decode cX5_counts 5 = .ok (.invokevirtual 134, 3) := by decide +kernel
theorem dX5_counts_8 : decode cX5_counts 8 = .ok (.if_icmp .ge 38, 3) := by decide +kernel
theorem dX5_counts_11 : decode cX5_counts 11 = .ok (.aload_n 0, 1) := by decide +kernel
theorem dX5_counts_12 : decode cX5_counts 12 = .ok (.getfield 9, 3) := by decide +kernel
theorem dX5_counts_15 : decode cX5_counts 15 = .ok (.aload_n 0, 1) := by decide +kernel
theorem dX5_counts_16 : decode cX5_counts 16 = .ok (.getfield 16, 3) := by decide +kernel
theorem dX5_counts_19 : decode cX5_counts 19 = .ok (.iload_n 2, 1) := by decide +kernel
theorem dX5_counts_20 : decode cX5_counts 20 = .ok (.aload_n 0, 1) := by decide +kernel
theorem dX5_counts_21 : decode cX5_counts 21 = .ok (.getfield 109, 3) := by decide +kernel
theorem dX5_counts_24 : decode cX5_counts 24 = .ok (.imul, 1) := by decide +kernel
theorem dX5_counts_25 : decode cX5_counts 25 = .ok (.iload_n 3, 1) := by decide +kernel
theorem dX5_counts_26 : decode cX5_counts 26 = .ok (.iadd, 1) := by decide +kernel
theorem dX5_counts_27 : decode cX5_counts 27 = .ok (.iaload, 1) := by decide +kernel
theorem dX5_counts_28 : decode cX5_counts 28 = .ok (.iaload, 1) := by decide +kernel
theorem dX5_counts_29 : decode cX5_counts 29 = .ok (.aload_n 0, 1) := by decide +kernel
theorem dX5_counts_30 : decode cX5_counts 30 = .ok (.getfield 13, 3) := by decide +kernel
theorem dX5_counts_33 : decode cX5_counts 33 = .ok (.iload_n 1, 1) := by decide +kernel
theorem dX5_counts_34 : decode cX5_counts 34 = .ok (.iaload, 1) := by decide +kernel
theorem dX5_counts_35 : decode cX5_counts 35 = .ok (.if_icmp .ne 5, 3) := by decide +kernel
theorem dX5_counts_38 : decode cX5_counts 38 = .ok (.iconst 0, 1) := by decide +kernel
theorem dX5_counts_39 : decode cX5_counts 39 = .ok (.ireturn, 1) := by decide +kernel
theorem dX5_counts_40 : decode cX5_counts 40 = .ok (.iinc 3 1, 3) := by decide +kernel
theorem dX5_counts_43 : decode cX5_counts 43 = .ok (.goto (-41), 3) := by decide +kernel
theorem dX5_counts_46 : decode cX5_counts 46 = .ok (.aload_n 0, 1) := by decide +kernel
theorem dX5_counts_47 : decode cX5_counts 47 = .ok (.getfield 30, 3) := by decide +kernel
theorem dX5_counts_50 : decode cX5_counts 50 = .ok (.bipush 24, 2) := by decide +kernel
theorem dX5_counts_52 : decode cX5_counts 52 = .ok (.iload_n 1, 1) := by decide +kernel
theorem dX5_counts_53 : decode cX5_counts 53 = .ok (.imul, 1) := by decide +kernel
theorem dX5_counts_54 : decode cX5_counts 54 = .ok (.iload_n 2, 1) := by decide +kernel
theorem dX5_counts_55 : decode cX5_counts 55 = .ok (.iadd, 1) := by decide +kernel
theorem dX5_counts_56 : decode cX5_counts 56 = .ok (.iaload, 1) := by decide +kernel
theorem dX5_counts_57 : decode cX5_counts 57 = .ok (.iconst (-1), 1) := by decide +kernel
theorem dX5_counts_58 : decode cX5_counts 58 = .ok (.if_icmp .eq 7, 3) := by decide +kernel
theorem dX5_counts_61 : decode cX5_counts 61 = .ok (.iconst 1, 1) := by decide +kernel
theorem dX5_counts_62 : decode cX5_counts 62 = .ok (.goto 4, 3) := by decide +kernel
theorem dX5_counts_65 : decode cX5_counts 65 = .ok (.iconst 0, 1) := by decide +kernel
theorem dX5_counts_66 : decode cX5_counts 66 = .ok (.ireturn, 1) := by decide +kernel
set_option maxRecDepth 20000 in
theorem ggX5_decide_X5_isHeat : GoodIn wsX5_decide wsX5_isHeat := goodIn_r _ [11, 12, 13, 14, 15, 10, 16, 17, 18, 4, 19, 20, 21, 32, 33, 34, 35, 36, 37, 38, 39, 40, 41, 42, 43, 44, 45, 46, 47, 48, 49, 50, 51, 52, 53, 54, 55, 56, 57, 58, 59, 60, 61, 62, 63, 64, 65, 66, 67, 68, 69, 70, 71, 72, 73, 74, 75] (by decide +kernel) (by decide +kernel)
set_option maxRecDepth 20000 in
theorem gX5_decide_X5_isHeat : GoodIn wsX5_decide (wsV RX5 130 RX5 yX5_isHeat wsX5_isHeat) := goodIn_app (goodIn_of _ (by decide +kernel)) ggX5_decide_X5_isHeat
set_option maxRecDepth 20000 in
theorem ggX5_decide_X5_counts : GoodIn wsX5_decide wsX5_counts := goodIn_r _ [25, 26, 3, 4, 27, 5, 28, 29, 30, 10, 31, 17, 18, 32, 33, 34, 35, 36, 37, 38, 39, 40, 41, 42, 43, 44, 45, 46, 47, 48, 49, 50, 51, 52, 53, 54, 55, 56, 57, 58, 59, 60, 61, 62, 63, 64, 65, 66, 67, 68, 69, 70, 71, 72, 73, 74, 75] (by decide +kernel) (by decide +kernel)
set_option maxRecDepth 20000 in
theorem gX5_decide_X5_counts : GoodIn wsX5_decide (wsV RX5 145 RX5 yX5_counts wsX5_counts) := goodIn_app (goodIn_of _ (by decide +kernel)) ggX5_decide_X5_counts
set_option maxRecDepth 20000 in
theorem ggX5_decide_X5_inHeat : GoodIn wsX5_decide wsX5_inHeat := goodIn_r _ [31, 17, 18, 4, 32, 33, 34, 35, 36, 37, 38, 39, 40, 41, 42, 43, 44, 45, 46, 47, 48, 49, 50, 51, 52, 53, 54, 55, 56, 57, 58, 59, 60, 61, 62, 63, 64, 65, 66, 67, 68, 69, 70, 71, 72, 73, 74, 75] (by decide +kernel) (by decide +kernel)
set_option maxRecDepth 20000 in
theorem gX5_decide_X5_inHeat : GoodIn wsX5_decide (wsV RX5 134 RX5 yX5_inHeat wsX5_inHeat) := goodIn_app (goodIn_of _ (by decide +kernel)) ggX5_decide_X5_inHeat
theorem dX5_decide_0 : decode cX5_decide 0 = .ok (.aload_n 0, 1) := by decide +kernel
theorem dX5_decide_1 : decode cX5_decide 1 = .ok (.getfield 116, 3) := by decide +kernel
theorem dX5_decide_4 : decode cX5_decide 4 = .ok (.ifCond .eq 11, 3) := by decide +kernel
theorem dX5_decide_7 : decode cX5_decide 7 = .ok (.aload_n 0, 1) := by decide +kernel
theorem dX5_decide_8 : decode cX5_decide 8 = .ok (.iload_n 1, 1) := by decide +kernel
theorem dX5_decide_9 : decode cX5_decide 9 = .ok (.invokevirtual 130, 3) := by decide +kernel
theorem dX5_decide_12 : decode cX5_decide 12 = .ok (.ifCond .ne 5, 3) := by decide +kernel
theorem dX5_decide_15 : decode cX5_decide 15 = .ok (.iconst (-1), 1) := by decide +kernel
theorem dX5_decide_16 : decode cX5_decide 16 = .ok (.ireturn, 1) := by decide +kernel
theorem dX5_decide_17 : decode cX5_decide 17 = .ok (.iconst 0, 1) := by decide +kernel
theorem dX5_decide_18 : decode cX5_decide 18 = .ok (.istore_n 2, 1) := by decide +kernel
theorem dX5_decide_19 : decode cX5_decide 19 = .ok (.iconst 0, 1) := by decide +kernel
theorem dX5_decide_20 : decode cX5_decide 20 = .ok (.istore_n 3, 1) := by decide +kernel
theorem dX5_decide_21 : decode cX5_decide 21 = .ok (.iload_n 3, 1) := by decide +kernel
theorem dX5_decide_22 : decode cX5_decide 22 = .ok (.aload_n 0, 1) := by decide +kernel
theorem dX5_decide_23 : decode cX5_decide 23 = .ok (.getfield 103, 3) := by decide +kernel
theorem dX5_decide_26 : decode cX5_decide 26 = .ok (.if_icmp .ge 21, 3) := by decide +kernel
theorem dX5_decide_29 : decode cX5_decide 29 = .ok (.aload_n 0, 1) := by decide +kernel
theorem dX5_decide_30 : decode cX5_decide 30 = .ok (.iload_n 3, 1) := by decide +kernel
theorem dX5_decide_31 : decode cX5_decide 31 = .ok (.iload_n 1, 1) := by decide +kernel
theorem dX5_decide_32 : decode cX5_decide 32 = .ok (.invokevirtual 145, 3) := by decide +kernel
theorem dX5_decide_35 : decode cX5_decide 35 = .ok (.ifCond .eq 6, 3) := by decide +kernel
theorem dX5_decide_38 : decode cX5_decide 38 = .ok (.iinc 2 1, 3) := by decide +kernel
theorem dX5_decide_41 : decode cX5_decide 41 = .ok (.iinc 3 1, 3) := by decide +kernel
theorem dX5_decide_44 : decode cX5_decide 44 = .ok (.goto (-23), 3) := by decide +kernel
theorem dX5_decide_47 : decode cX5_decide 47 = .ok (.iconst 0, 1) := by decide +kernel
theorem dX5_decide_48 : decode cX5_decide 48 = .ok (.istore_n 3, 1) := by decide +kernel
theorem dX5_decide_49 : decode cX5_decide 49 = .ok (.iload_n 3, 1) := by decide +kernel
theorem dX5_decide_50 : decode cX5_decide 50 = .ok (.aload_n 0, 1) := by decide +kernel
theorem dX5_decide_51 : decode cX5_decide 51 = .ok (.iload_n 1, 1) := by decide +kernel
theorem dX5_decide_52 : decode cX5_decide 52 = .ok (.invokevirtual 134, 3) := by decide +kernel
theorem dX5_decide_55 : decode cX5_decide 55 = .ok (.if_icmp .ge 97, 3) := by decide +kernel
theorem dX5_decide_58 : decode cX5_decide 58 = .ok (.aload_n 0, 1) := by decide +kernel
theorem dX5_decide_59 : decode cX5_decide 59 = .ok (.getfield 16, 3) := by decide +kernel
theorem dX5_decide_62 : decode cX5_decide 62 = .ok (.iload_n 1, 1) := by decide +kernel
theorem dX5_decide_63 : decode cX5_decide 63 = .ok (.aload_n 0, 1) := by decide +kernel
theorem dX5_decide_64 : decode cX5_decide 64 = .ok (.getfield 109, 3) := by decide +kernel
theorem dX5_decide_67 : decode cX5_decide 67 = .ok (.imul, 1) := by decide +kernel
theorem dX5_decide_68 : decode cX5_decide 68 = .ok (.iload_n 3, 1) := by decide +kernel
theorem dX5_decide_69 : decode cX5_decide 69 = .ok (.iadd, 1) := by decide +kernel
theorem dX5_decide_70 : decode cX5_decide 70 = .ok (.iaload, 1) := by decide +kernel
theorem dX5_decide_71 : decode cX5_decide 71 = .ok (.istore 4, 2) := by decide +kernel
theorem dX5_decide_73 : decode cX5_decide 73 = .ok (.iconst 0, 1) := by decide +kernel
theorem dX5_decide_74 : decode cX5_decide 74 = .ok (.istore 5, 2) := by decide +kernel
theorem dX5_decide_76 : decode cX5_decide 76 = .ok (.iconst 0, 1) := by decide +kernel
theorem dX5_decide_77 : decode cX5_decide 77 = .ok (.istore 6, 2) := by decide +kernel
theorem dX5_decide_79 : decode cX5_decide 79 = .ok (.iload 6, 2) := by decide +kernel
theorem dX5_decide_81 : decode cX5_decide 81 = .ok (.aload_n 0, 1) := by decide +kernel
theorem dX5_decide_82 : decode cX5_decide 82 = .ok (.getfield 103, 3) := by decide +kernel
theorem dX5_decide_85 : decode cX5_decide 85 = .ok (.if_icmp .ge 39, 3) := by decide +kernel
theorem dX5_decide_88 : decode cX5_decide 88 = .ok (.aload_n 0, 1) := by decide +kernel
theorem dX5_decide_89 : decode cX5_decide 89 = .ok (.iload 6, 2) := by decide +kernel
theorem dX5_decide_91 : decode cX5_decide 91 = .ok (.iload_n 1, 1) := by decide +kernel
theorem dX5_decide_92 : decode cX5_decide 92 = .ok (.invokevirtual 145, 3) := by decide +kernel
theorem dX5_decide_95 : decode cX5_decide 95 = .ok (.ifCond .eq 23, 3) := by decide +kernel
theorem dX5_decide_98 : decode cX5_decide 98 = .ok (.aload_n 0, 1) := by decide +kernel
theorem dX5_decide_99 : decode cX5_decide 99 = .ok (.getfield 30, 3) := by decide +kernel
theorem dX5_decide_102 : decode cX5_decide 102 = .ok (.bipush 24, 2) := by decide +kernel
theorem dX5_decide_104 : decode cX5_decide 104 = .ok (.iload 6, 2) := by decide +kernel
theorem dX5_decide_106 : decode cX5_decide 106 = .ok (.imul, 1) := by decide +kernel
theorem dX5_decide_107 : decode cX5_decide 107 = .ok (.iload_n 1, 1) := by decide +kernel
theorem dX5_decide_108 : decode cX5_decide 108 = .ok (.iadd, 1) := by decide +kernel
theorem dX5_decide_109 : decode cX5_decide 109 = .ok (.iaload, 1) := by decide +kernel
theorem dX5_decide_110 : decode cX5_decide 110 = .ok (.iload 4, 2) := by decide +kernel
theorem dX5_decide_112 : decode cX5_decide 112 = .ok (.if_icmp .ne 6, 3) := by decide +kernel
theorem dX5_decide_115 : decode cX5_decide 115 = .ok (.iinc 5 1, 3) := by decide +kernel
theorem dX5_decide_118 : decode cX5_decide 118 = .ok (.iinc 6 1, 3) := by decide +kernel
theorem dX5_decide_121 : decode cX5_decide 121 = .ok (.goto (-42), 3) := by decide +kernel
theorem dX5_decide_124 : decode cX5_decide 124 = .ok (.iconst 2, 1) := by decide +kernel
theorem dX5_decide_125 : decode cX5_decide 125 = .ok (.iload 5, 2) := by decide +kernel
theorem dX5_decide_127 : decode cX5_decide 127 = .ok (.imul, 1) := by decide +kernel
theorem dX5_decide_128 : decode cX5_decide 128 = .ok (.iload_n 2, 1) := by decide +kernel
theorem dX5_decide_129 : decode cX5_decide 129 = .ok (.if_icmp .gt 6, 3) := by decide +kernel
theorem dX5_decide_132 : decode cX5_decide 132 = .ok (.goto 14, 3) := by decide +kernel
theorem dX5_decide_135 : decode cX5_decide 135 = .ok (.aload_n 0, 1) := by decide +kernel
theorem dX5_decide_136 : decode cX5_decide 136 = .ok (.getfield 27, 3) := by decide +kernel
theorem dX5_decide_139 : decode cX5_decide 139 = .ok (.iload_n 1, 1) := by decide +kernel
theorem dX5_decide_140 : decode cX5_decide 140 = .ok (.iload 4, 2) := by decide +kernel
theorem dX5_decide_142 : decode cX5_decide 142 = .ok (.iastore, 1) := by decide +kernel
theorem dX5_decide_143 : decode cX5_decide 143 = .ok (.iload 4, 2) := by decide +kernel
theorem dX5_decide_145 : decode cX5_decide 145 = .ok (.ireturn, 1) := by decide +kernel
theorem dX5_decide_146 : decode cX5_decide 146 = .ok (.iinc 3 1, 3) := by decide +kernel
theorem dX5_decide_149 : decode cX5_decide 149 = .ok (.goto (-100), 3) := by decide +kernel
theorem dX5_decide_152 : decode cX5_decide 152 = .ok (.bipush (-2), 2) := by decide +kernel
theorem dX5_decide_154 : decode cX5_decide 154 = .ok (.ireturn, 1) := by decide +kernel
set_option maxRecDepth 20000 in
theorem ggX5_next_X5_open : GoodIn wsX5_next wsX5_open := goodIn_r _ [13, 3, 14, 15, 16, 12, 17, 7, 2, 18, 27, 28, 29, 30, 31, 32, 33, 34, 35, 36, 37, 38, 39, 40, 41, 42, 43, 44, 45, 46, 47, 48, 49, 50, 51, 52, 53, 54, 55, 56, 57, 58, 59, 60, 61, 62, 63, 64, 65, 66, 67, 68, 69, 70] (by decide +kernel) (by decide +kernel)
set_option maxRecDepth 20000 in
theorem gX5_next_X5_open : GoodIn wsX5_next (wsV RX5 138 RX5 yX5_open wsX5_open) := goodIn_app (goodIn_of _ (by decide +kernel)) ggX5_next_X5_open
set_option maxRecDepth 20000 in
theorem ggX5_next_X5_heats : GoodIn wsX5_next wsX5_heats := goodIn_r _ [17, 7, 2, 18, 27, 28, 29, 30, 31, 32, 33, 34, 35, 36, 37, 38, 39, 40, 41, 42, 43, 44, 45, 46, 47, 48, 49, 50, 51, 52, 53, 54, 55, 56, 57, 58, 59, 60, 61, 62, 63, 64, 65, 66, 67, 68, 69, 70] (by decide +kernel) (by decide +kernel)
set_option maxRecDepth 20000 in
theorem gX5_next_X5_heats : GoodIn wsX5_next (wsV RX5 126 RX5 yX5_heats wsX5_heats) := goodIn_app (goodIn_of _ (by decide +kernel)) ggX5_next_X5_heats
set_option maxRecDepth 20000 in
theorem ggX5_next_X5_mix : GoodIn wsX5_next wsX5_mix := goodIn_r _ [22, 7, 23, 24, 6, 2, 18, 25, 3, 26, 27, 28, 29, 30, 31, 32, 33, 34, 35, 36, 37, 38, 39, 40, 41, 42, 43, 44, 45, 46, 47, 48, 49, 50, 51, 52, 53, 54, 55, 56, 57, 58, 59, 60, 61, 62, 63, 64, 65, 66, 67, 68, 69, 70] (by decide +kernel) (by decide +kernel)
set_option maxRecDepth 20000 in
theorem gX5_next_X5_mix : GoodIn wsX5_next (wsV RX5 123 RX5 yX5_mix wsX5_mix) := goodIn_app (goodIn_of _ (by decide +kernel)) ggX5_next_X5_mix
theorem dX5_next_0 : decode cX5_next 0 = .ok (.aload_n 0, 1) := by decide +kernel
theorem dX5_next_1 : decode cX5_next 1 = .ok (.getfield 116, 3) := by decide +kernel
theorem dX5_next_4 : decode cX5_next 4 = .ok (.ifCond .eq 10, 3) := by decide +kernel
theorem dX5_next_7 : decode cX5_next 7 = .ok (.aload_n 0, 1) := by decide +kernel
theorem dX5_next_8 : decode cX5_next 8 = .ok (.invokevirtual 138, 3) := by decide +kernel
theorem dX5_next_11 : decode cX5_next 11 = .ok (.ifCond .le 5, 3) := by decide +kernel
theorem dX5_next_14 : decode cX5_next 14 = .ok (.iconst (-1), 1) := by decide +kernel
theorem dX5_next_15 : decode cX5_next 15 = .ok (.ireturn, 1) := by decide +kernel
theorem dX5_next_16 : decode cX5_next 16 = .ok (.aload_n 0, 1) := by decide +kernel
theorem dX5_next_17 : decode cX5_next 17 = .ok (.invokevirtual 126, 3) := by decide +kernel
theorem dX5_next_20 : decode cX5_next 20 = .ok (.istore_n 1, 1) := by decide +kernel
theorem dX5_next_21 : decode cX5_next 21 = .ok (.iload_n 1, 1) := by decide +kernel
theorem dX5_next_22 : decode cX5_next 22 = .ok (.aload_n 0, 1) := by decide +kernel
theorem dX5_next_23 : decode cX5_next 23 = .ok (.getfield 19, 3) := by decide +kernel
theorem dX5_next_26 : decode cX5_next 26 = .ok (.iconst (-1), 1) := by decide +kernel
theorem dX5_next_27 : decode cX5_next 27 = .ok (.if_icmp .ne 7, 3) := by decide +kernel
theorem dX5_next_30 : decode cX5_next 30 = .ok (.iconst 0, 1) := by decide +kernel
theorem dX5_next_31 : decode cX5_next 31 = .ok (.goto 4, 3) := by decide +kernel
theorem dX5_next_34 : decode cX5_next 34 = .ok (.iconst 1, 1) := by decide +kernel
theorem dX5_next_35 : decode cX5_next 35 = .ok (.iadd, 1) := by decide +kernel
theorem dX5_next_36 : decode cX5_next 36 = .ok (.iconst 1, 1) := by decide +kernel
theorem dX5_next_37 : decode cX5_next 37 = .ok (.if_icmp .ne 32, 3) := by decide +kernel
theorem dX5_next_40 : decode cX5_next 40 = .ok (.aload_n 0, 1) := by decide +kernel
theorem dX5_next_41 : decode cX5_next 41 = .ok (.iload_n 1, 1) := by decide +kernel
theorem dX5_next_42 : decode cX5_next 42 = .ok (.iconst 1, 1) := by decide +kernel
theorem dX5_next_43 : decode cX5_next 43 = .ok (.if_icmp .ne 12, 3) := by decide +kernel
theorem dX5_next_46 : decode cX5_next 46 = .ok (.aload_n 0, 1) := by decide +kernel
theorem dX5_next_47 : decode cX5_next 47 = .ok (.getfield 27, 3) := by decide +kernel
theorem dX5_next_50 : decode cX5_next 50 = .ok (.iconst 0, 1) := by decide +kernel
theorem dX5_next_51 : decode cX5_next 51 = .ok (.iaload, 1) := by decide +kernel
theorem dX5_next_52 : decode cX5_next 52 = .ok (.goto 7, 3) := by decide +kernel
theorem dX5_next_55 : decode cX5_next 55 = .ok (.aload_n 0, 1) := by decide +kernel
theorem dX5_next_56 : decode cX5_next 56 = .ok (.getfield 19, 3) := by decide +kernel
theorem dX5_next_59 : decode cX5_next 59 = .ok (.putfield 33, 3) := by decide +kernel
theorem dX5_next_62 : decode cX5_next 62 = .ok (.aload_n 0, 1) := by decide +kernel
theorem dX5_next_63 : decode cX5_next 63 = .ok (.iconst 0, 1) := by decide +kernel
theorem dX5_next_64 : decode cX5_next 64 = .ok (.putfield 116, 3) := by decide +kernel
theorem dX5_next_67 : decode cX5_next 67 = .ok (.iconst 0, 1) := by decide +kernel
theorem dX5_next_68 : decode cX5_next 68 = .ok (.ireturn, 1) := by decide +kernel
theorem dX5_next_69 : decode cX5_next 69 = .ok (.iconst 0, 1) := by decide +kernel
theorem dX5_next_70 : decode cX5_next 70 = .ok (.istore_n 2, 1) := by decide +kernel
theorem dX5_next_71 : decode cX5_next 71 = .ok (.aload_n 0, 1) := by decide +kernel
theorem dX5_next_72 : decode cX5_next 72 = .ok (.getfield 19, 3) := by decide +kernel
theorem dX5_next_75 : decode cX5_next 75 = .ok (.istore_n 3, 1) := by decide +kernel
theorem dX5_next_76 : decode cX5_next 76 = .ok (.aload_n 0, 1) := by decide +kernel
theorem dX5_next_77 : decode cX5_next 77 = .ok (.getfield 93, 3) := by decide +kernel
theorem dX5_next_80 : decode cX5_next 80 = .ok (.astore 4, 2) := by decide +kernel
theorem dX5_next_82 : decode cX5_next 82 = .ok (.iconst 0, 1) := by decide +kernel
theorem dX5_next_83 : decode cX5_next 83 = .ok (.istore 5, 2) := by decide +kernel
theorem dX5_next_85 : decode cX5_next 85 = .ok (.iload 5, 2) := by decide +kernel
theorem dX5_next_87 : decode cX5_next 87 = .ok (.bipush 24, 2) := by decide +kernel
theorem dX5_next_89 : decode cX5_next 89 = .ok (.if_icmp .ge 25, 3) := by decide +kernel
theorem dX5_next_92 : decode cX5_next 92 = .ok (.aload 4, 2) := by decide +kernel
theorem dX5_next_94 : decode cX5_next 94 = .ok (.iload 5, 2) := by decide +kernel
theorem dX5_next_96 : decode cX5_next 96 = .ok (.iload 5, 2) := by decide +kernel
theorem dX5_next_98 : decode cX5_next 98 = .ok (.iload_n 3, 1) := by decide +kernel
theorem dX5_next_99 : decode cX5_next 99 = .ok (.if_icmp .ne 7, 3) := by decide +kernel
theorem dX5_next_102 : decode cX5_next 102 = .ok (.iconst 1, 1) := by decide +kernel
theorem dX5_next_103 : decode cX5_next 103 = .ok (.goto 4, 3) := by decide +kernel
theorem dX5_next_106 : decode cX5_next 106 = .ok (.iconst 0, 1) := by decide +kernel
theorem dX5_next_107 : decode cX5_next 107 = .ok (.bastore, 1) := by decide +kernel
theorem dX5_next_108 : decode cX5_next 108 = .ok (.iinc 5 1, 3) := by decide +kernel
theorem dX5_next_111 : decode cX5_next 111 = .ok (.goto (-26), 3) := by decide +kernel
theorem dX5_next_114 : decode cX5_next 114 = .ok (.iconst 0, 1) := by decide +kernel
theorem dX5_next_115 : decode cX5_next 115 = .ok (.istore 5, 2) := by decide +kernel
theorem dX5_next_117 : decode cX5_next 117 = .ok (.iload 5, 2) := by decide +kernel
theorem dX5_next_119 : decode cX5_next 119 = .ok (.iload_n 1, 1) := by decide +kernel
theorem dX5_next_120 : decode cX5_next 120 = .ok (.if_icmp .ge 20, 3) := by decide +kernel
theorem dX5_next_123 : decode cX5_next 123 = .ok (.aload 4, 2) := by decide +kernel
theorem dX5_next_125 : decode cX5_next 125 = .ok (.aload_n 0, 1) := by decide +kernel
theorem dX5_next_126 : decode cX5_next 126 = .ok (.getfield 27, 3) := by decide +kernel
theorem dX5_next_129 : decode cX5_next 129 = .ok (.iload 5, 2) := by decide +kernel
theorem dX5_next_131 : decode cX5_next 131 = .ok (.iaload, 1) := by decide +kernel
theorem dX5_next_132 : decode cX5_next 132 = .ok (.iconst 1, 1) := by decide +kernel
theorem dX5_next_133 : decode cX5_next 133 = .ok (.bastore, 1) := by decide +kernel
theorem dX5_next_134 : decode cX5_next 134 = .ok (.iinc 5 1, 3) := by decide +kernel
theorem dX5_next_137 : decode cX5_next 137 = .ok (.goto (-20), 3) := by decide +kernel
theorem dX5_next_140 : decode cX5_next 140 = .ok (.iconst 0, 1) := by decide +kernel
theorem dX5_next_141 : decode cX5_next 141 = .ok (.istore 5, 2) := by decide +kernel
theorem dX5_next_143 : decode cX5_next 143 = .ok (.iload 5, 2) := by decide +kernel
theorem dX5_next_145 : decode cX5_next 145 = .ok (.bipush 24, 2) := by decide +kernel
theorem dX5_next_147 : decode cX5_next 147 = .ok (.if_icmp .ge 31, 3) := by decide +kernel
theorem dX5_next_150 : decode cX5_next 150 = .ok (.aload 4, 2) := by decide +kernel
theorem dX5_next_152 : decode cX5_next 152 = .ok (.iload 5, 2) := by decide +kernel
theorem dX5_next_154 : decode cX5_next 154 = .ok (.baload, 1) := by decide +kernel
theorem dX5_next_155 : decode cX5_next 155 = .ok (.ifCond .ne 6, 3) := by decide +kernel
theorem dX5_next_158 : decode cX5_next 158 = .ok (.goto 14, 3) := by decide +kernel
theorem dX5_next_161 : decode cX5_next 161 = .ok (.aload_n 0, 1) := by decide +kernel
theorem dX5_next_162 : decode cX5_next 162 = .ok (.getfield 16, 3) := by decide +kernel
theorem dX5_next_165 : decode cX5_next 165 = .ok (.iload_n 2, 1) := by decide +kernel
theorem dX5_next_166 : decode cX5_next 166 = .ok (.iload 5, 2) := by decide +kernel
theorem dX5_next_168 : decode cX5_next 168 = .ok (.iastore, 1) := by decide +kernel
theorem dX5_next_169 : decode cX5_next 169 = .ok (.iinc 2 1, 3) := by decide +kernel
theorem dX5_next_172 : decode cX5_next 172 = .ok (.iinc 5 1, 3) := by decide +kernel
theorem dX5_next_175 : decode cX5_next 175 = .ok (.goto (-32), 3) := by decide +kernel
theorem dX5_next_178 : decode cX5_next 178 = .ok (.aload_n 0, 1) := by decide +kernel
theorem dX5_next_179 : decode cX5_next 179 = .ok (.iload_n 2, 1) := by decide +kernel
theorem dX5_next_180 : decode cX5_next 180 = .ok (.putfield 106, 3) := by decide +kernel
theorem dX5_next_183 : decode cX5_next 183 = .ok (.aload_n 0, 1) := by decide +kernel
theorem dX5_next_184 : decode cX5_next 184 = .ok (.dup, 1) := by decide +kernel
theorem dX5_next_185 : decode cX5_next 185 = .ok (.getfield 120, 3) := by decide +kernel
theorem dX5_next_188 : decode cX5_next 188 = .ok (.iconst 1, 1) := by decide +kernel
theorem dX5_next_189 : decode cX5_next 189 = .ok (.iadd, 1) := by decide +kernel
theorem dX5_next_190 : decode cX5_next 190 = .ok (.putfield 120, 3) := by decide +kernel
theorem dX5_next_193 : decode cX5_next 193 = .ok (.aload_n 0, 1) := by decide +kernel
theorem dX5_next_194 : decode cX5_next 194 = .ok (.invokevirtual 123, 3) := by decide +kernel
theorem dX5_next_197 : decode cX5_next 197 = .ok (.aload_n 0, 1) := by decide +kernel
theorem dX5_next_198 : decode cX5_next 198 = .ok (.invokevirtual 126, 3) := by decide +kernel
theorem dX5_next_201 : decode cX5_next 201 = .ok (.ireturn, 1) := by decide +kernel
set_option maxRecDepth 20000 in
theorem ggX5_five_X5_in : GoodIn wsX5_five wsX5_in := goodIn_r _ [8] (by decide +kernel) (by decide +kernel)
set_option maxRecDepth 20000 in
theorem gX5_five_X5_in : GoodIn wsX5_five (va_wsS RX5 96 yX5_in wsX5_in) := goodIn_app (goodIn_of _ (by decide +kernel)) ggX5_five_X5_in
theorem dX5_five_0 : decode cX5_five 0 = .ok (.iload_n 1, 1) := by decide +kernel
theorem dX5_five_1 : decode cX5_five 1 = .ok (.iconst 1, 1) := by decide +kernel
theorem dX5_five_2 : decode cX5_five 2 = .ok (.iconst 4, 1) := by decide +kernel
theorem dX5_five_3 : decode cX5_five 3 = .ok (.invokestatic 96, 3) := by decide +kernel
theorem dX5_five_6 : decode cX5_five 6 = .ok (.ifCond .ne 5, 3) := by decide +kernel
theorem dX5_five_9 : decode cX5_five 9 = .ok (.iconst 0, 1) := by decide +kernel
theorem dX5_five_10 : decode cX5_five 10 = .ok (.ireturn, 1) := by decide +kernel
theorem dX5_five_11 : decode cX5_five 11 = .ok (.aload_n 0, 1) := by decide +kernel
theorem dX5_five_12 : decode cX5_five 12 = .ok (.iload_n 1, 1) := by decide +kernel
theorem dX5_five_13 : decode cX5_five 13 = .ok (.putfield 148, 3) := by decide +kernel
theorem dX5_five_16 : decode cX5_five 16 = .ok (.aload_n 0, 1) := by decide +kernel
theorem dX5_five_17 : decode cX5_five 17 = .ok (.iconst 0, 1) := by decide +kernel
theorem dX5_five_18 : decode cX5_five 18 = .ok (.putfield 151, 3) := by decide +kernel
theorem dX5_five_21 : decode cX5_five 21 = .ok (.iconst 0, 1) := by decide +kernel
theorem dX5_five_22 : decode cX5_five 22 = .ok (.istore_n 2, 1) := by decide +kernel
theorem dX5_five_23 : decode cX5_five 23 = .ok (.iload_n 2, 1) := by decide +kernel
theorem dX5_five_24 : decode cX5_five 24 = .ok (.iload_n 1, 1) := by decide +kernel
theorem dX5_five_25 : decode cX5_five 25 = .ok (.if_icmp .ge 23, 3) := by decide +kernel
theorem dX5_five_28 : decode cX5_five 28 = .ok (.aload_n 0, 1) := by decide +kernel
theorem dX5_five_29 : decode cX5_five 29 = .ok (.getfield 36, 3) := by decide +kernel
theorem dX5_five_32 : decode cX5_five 32 = .ok (.iload_n 2, 1) := by decide +kernel
theorem dX5_five_33 : decode cX5_five 33 = .ok (.iconst 0, 1) := by decide +kernel
theorem dX5_five_34 : decode cX5_five 34 = .ok (.iastore, 1) := by decide +kernel
theorem dX5_five_35 : decode cX5_five 35 = .ok (.aload_n 0, 1) := by decide +kernel
theorem dX5_five_36 : decode cX5_five 36 = .ok (.getfield 39, 3) := by decide +kernel
theorem dX5_five_39 : decode cX5_five 39 = .ok (.iload_n 2, 1) := by decide +kernel
theorem dX5_five_40 : decode cX5_five 40 = .ok (.iconst 0, 1) := by decide +kernel
theorem dX5_five_41 : decode cX5_five 41 = .ok (.iastore, 1) := by decide +kernel
theorem dX5_five_42 : decode cX5_five 42 = .ok (.iinc 2 1, 3) := by decide +kernel
theorem dX5_five_45 : decode cX5_five 45 = .ok (.goto (-22), 3) := by decide +kernel
theorem dX5_five_48 : decode cX5_five 48 = .ok (.iconst 1, 1) := by decide +kernel
theorem dX5_five_49 : decode cX5_five 49 = .ok (.ireturn, 1) := by decide +kernel
set_option maxRecDepth 20000 in
theorem ggX5_event_X5_won : GoodIn wsX5_event wsX5_won := goodIn_r _ [9, 1, 2, 3, 4, 10, 11, 12, 13, 14, 15, 16, 17, 18, 19, 20, 21, 22, 23, 24, 25, 26, 27, 28, 29, 30, 31, 32, 33, 34, 35, 36, 37, 38, 39, 40, 41, 42, 43, 44, 45, 46, 47, 48, 49, 50, 51, 52, 53] (by decide +kernel) (by decide +kernel)
set_option maxRecDepth 20000 in
theorem gX5_event_X5_won : GoodIn wsX5_event (wsV RX5 154 RX5 yX5_won wsX5_won) := goodIn_app (goodIn_of _ (by decide +kernel)) ggX5_event_X5_won
theorem dX5_event_0 : decode cX5_event 0 = .ok (.aload_n 0, 1) := by decide +kernel
theorem dX5_event_1 : decode cX5_event 1 = .ok (.getfield 148, 3) := by decide +kernel
theorem dX5_event_4 : decode cX5_event 4 = .ok (.ifCond .eq 15, 3) := by decide +kernel
theorem dX5_event_7 : decode cX5_event 7 = .ok (.aload_n 0, 1) := by decide +kernel
theorem dX5_event_8 : decode cX5_event 8 = .ok (.invokevirtual 154, 3) := by decide +kernel
theorem dX5_event_11 : decode cX5_event 11 = .ok (.iconst (-1), 1) := by decide +kernel
theorem dX5_event_12 : decode cX5_event 12 = .ok (.if_icmp .ne 7, 3) := by decide +kernel
theorem dX5_event_15 : decode cX5_event 15 = .ok (.iload_n 1, 1) := by decide +kernel
theorem dX5_event_16 : decode cX5_event 16 = .ok (.ifCond .ge 5, 3) := by decide +kernel
theorem dX5_event_19 : decode cX5_event 19 = .ok (.iconst (-1), 1) := by decide +kernel
theorem dX5_event_20 : decode cX5_event 20 = .ok (.ireturn, 1) := by decide +kernel
theorem dX5_event_21 : decode cX5_event 21 = .ok (.iload_n 1, 1) := by decide +kernel
theorem dX5_event_22 : decode cX5_event 22 = .ok (.istore_n 2, 1) := by decide +kernel
theorem dX5_event_23 : decode cX5_event 23 = .ok (.iconst 0, 1) := by decide +kernel
theorem dX5_event_24 : decode cX5_event 24 = .ok (.istore_n 3, 1) := by decide +kernel
theorem dX5_event_25 : decode cX5_event 25 = .ok (.iconst 0, 1) := by decide +kernel
theorem dX5_event_26 : decode cX5_event 26 = .ok (.istore 4, 2) := by decide +kernel
theorem dX5_event_28 : decode cX5_event 28 = .ok (.iload 4, 2) := by decide +kernel
theorem dX5_event_30 : decode cX5_event 30 = .ok (.aload_n 0, 1) := by decide +kernel
theorem dX5_event_31 : decode cX5_event 31 = .ok (.getfield 148, 3) := by decide +kernel
theorem dX5_event_34 : decode cX5_event 34 = .ok (.if_icmp .ge 48, 3) := by decide +kernel
theorem dX5_event_37 : decode cX5_event 37 = .ok (.iload_n 2, 1) := by decide +kernel
theorem dX5_event_38 : decode cX5_event 38 = .ok (.bipush 10, 2) := by decide +kernel
theorem dX5_event_40 : decode cX5_event 40 = .ok (.irem, 1) := by decide +kernel
theorem dX5_event_41 : decode cX5_event 41 = .ok (.istore 5, 2) := by decide +kernel
theorem dX5_event_43 : decode cX5_event 43 = .ok (.iload 5, 2) := by decide +kernel
theorem dX5_event_45 : decode cX5_event 45 = .ok (.aload_n 0, 1) := by decide +kernel
theorem dX5_event_46 : decode cX5_event 46 = .ok (.getfield 148, 3) := by decide +kernel
theorem dX5_event_49 : decode cX5_event 49 = .ok (.if_icmp .ge 13, 3) := by decide +kernel
theorem dX5_event_52 : decode cX5_event 52 = .ok (.iload_n 3, 1) := by decide +kernel
theorem dX5_event_53 : decode cX5_event 53 = .ok (.iload 5, 2) := by decide +kernel
theorem dX5_event_55 : decode cX5_event 55 = .ok (.ishr, 1) := by decide +kernel
theorem dX5_event_56 : decode cX5_event 56 = .ok (.iconst 1, 1) := by decide +kernel
theorem dX5_event_57 : decode cX5_event 57 = .ok (.iand, 1) := by decide +kernel
theorem dX5_event_58 : decode cX5_event 58 = .ok (.iconst 1, 1) := by decide +kernel
theorem dX5_event_59 : decode cX5_event 59 = .ok (.if_icmp .ne 5, 3) := by decide +kernel
theorem dX5_event_62 : decode cX5_event 62 = .ok (.iconst (-1), 1) := by decide +kernel
theorem dX5_event_63 : decode cX5_event 63 = .ok (.ireturn, 1) := by decide +kernel
theorem dX5_event_64 : decode cX5_event 64 = .ok (.iload_n 3, 1) := by decide +kernel
theorem dX5_event_65 : decode cX5_event 65 = .ok (.iconst 1, 1) := by decide +kernel
theorem dX5_event_66 : decode cX5_event 66 = .ok (.iload 5, 2) := by decide +kernel
theorem dX5_event_68 : decode cX5_event 68 = .ok (.ishl, 1) := by decide +kernel
theorem dX5_event_69 : decode cX5_event 69 = .ok (.ior, 1) := by decide +kernel
theorem dX5_event_70 : decode cX5_event 70 = .ok (.istore_n 3, 1) := by decide +kernel
theorem dX5_event_71 : decode cX5_event 71 = .ok (.iload_n 2, 1) := by decide +kernel
theorem dX5_event_72 : decode cX5_event 72 = .ok (.bipush 10, 2) := by decide +kernel
theorem dX5_event_74 : decode cX5_event 74 = .ok (.idiv, 1) := by decide +kernel
theorem dX5_event_75 : decode cX5_event 75 = .ok (.istore_n 2, 1) := by decide +kernel
theorem dX5_event_76 : decode cX5_event 76 = .ok (.iinc 4 1, 3) := by decide +kernel
theorem dX5_event_79 : decode cX5_event 79 = .ok (.goto (-51), 3) := by decide +kernel
theorem dX5_event_82 : decode cX5_event 82 = .ok (.iload_n 2, 1) := by decide +kernel
theorem dX5_event_83 : decode cX5_event 83 = .ok (.ifCond .le 5, 3) := by decide +kernel
theorem dX5_event_86 : decode cX5_event 86 = .ok (.iconst (-1), 1) := by decide +kernel
theorem dX5_event_87 : decode cX5_event 87 = .ok (.ireturn, 1) := by decide +kernel
theorem dX5_event_88 : decode cX5_event 88 = .ok (.iload_n 1, 1) := by decide +kernel
theorem dX5_event_89 : decode cX5_event 89 = .ok (.istore_n 2, 1) := by decide +kernel
theorem dX5_event_90 : decode cX5_event 90 = .ok (.iconst 0, 1) := by decide +kernel
theorem dX5_event_91 : decode cX5_event 91 = .ok (.istore 4, 2) := by decide +kernel
theorem dX5_event_93 : decode cX5_event 93 = .ok (.iload 4, 2) := by decide +kernel
theorem dX5_event_95 : decode cX5_event 95 = .ok (.aload_n 0, 1) := by decide +kernel
theorem dX5_event_96 : decode cX5_event 96 = .ok (.getfield 148, 3) := by decide +kernel
theorem dX5_event_99 : decode cX5_event 99 = .ok (.if_icmp .ge 50, 3) := by decide +kernel
theorem dX5_event_102 : decode cX5_event 102 = .ok (.iload_n 2, 1) := by decide +kernel
theorem dX5_event_103 : decode cX5_event 103 = .ok (.bipush 10, 2) := by decide +kernel
theorem dX5_event_105 : decode cX5_event 105 = .ok (.irem, 1) := by decide +kernel
theorem dX5_event_106 : decode cX5_event 106 = .ok (.istore 5, 2) := by decide +kernel
theorem dX5_event_108 : decode cX5_event 108 = .ok (.iload 4, 2) := by decide +kernel
theorem dX5_event_110 : decode cX5_event 110 = .ok (.ifCond .ne 14, 3) := by decide +kernel
theorem dX5_event_113 : decode cX5_event 113 = .ok (.aload_n 0, 1) := by decide +kernel
theorem dX5_event_114 : decode cX5_event 114 = .ok (.getfield 36, 3) := by decide +kernel
theorem dX5_event_117 : decode cX5_event 117 = .ok (.iload 5, 2) := by decide +kernel
theorem dX5_event_119 : decode cX5_event 119 = .ok (.dup2, 1) := by decide +kernel
theorem dX5_event_120 : decode cX5_event 120 = .ok (.iaload, 1) := by decide +kernel
theorem dX5_event_121 : decode cX5_event 121 = .ok (.iconst 1, 1) := by decide +kernel
theorem dX5_event_122 : decode cX5_event 122 = .ok (.iadd, 1) := by decide +kernel
theorem dX5_event_123 : decode cX5_event 123 = .ok (.iastore, 1) := by decide +kernel
theorem dX5_event_124 : decode cX5_event 124 = .ok (.aload_n 0, 1) := by decide +kernel
theorem dX5_event_125 : decode cX5_event 125 = .ok (.getfield 39, 3) := by decide +kernel
theorem dX5_event_128 : decode cX5_event 128 = .ok (.iload 5, 2) := by decide +kernel
theorem dX5_event_130 : decode cX5_event 130 = .ok (.dup2, 1) := by decide +kernel
theorem dX5_event_131 : decode cX5_event 131 = .ok (.iaload, 1) := by decide +kernel
theorem dX5_event_132 : decode cX5_event 132 = .ok (.iload 4, 2) := by decide +kernel
theorem dX5_event_134 : decode cX5_event 134 = .ok (.iconst 1, 1) := by decide +kernel
theorem dX5_event_135 : decode cX5_event 135 = .ok (.iadd, 1) := by decide +kernel
theorem dX5_event_136 : decode cX5_event 136 = .ok (.iadd, 1) := by decide +kernel
theorem dX5_event_137 : decode cX5_event 137 = .ok (.iastore, 1) := by decide +kernel
theorem dX5_event_138 : decode cX5_event 138 = .ok (.iload_n 2, 1) := by decide +kernel
theorem dX5_event_139 : decode cX5_event 139 = .ok (.bipush 10, 2) := by decide +kernel
theorem dX5_event_141 : decode cX5_event 141 = .ok (.idiv, 1) := by decide +kernel
theorem dX5_event_142 : decode cX5_event 142 = .ok (.istore_n 2, 1) := by decide +kernel
theorem dX5_event_143 : decode cX5_event 143 = .ok (.iinc 4 1, 3) := by decide +kernel
theorem dX5_event_146 : decode cX5_event 146 = .ok (.goto (-53), 3) := by decide +kernel
theorem dX5_event_149 : decode cX5_event 149 = .ok (.aload_n 0, 1) := by decide +kernel
theorem dX5_event_150 : decode cX5_event 150 = .ok (.dup, 1) := by decide +kernel
theorem dX5_event_151 : decode cX5_event 151 = .ok (.getfield 151, 3) := by decide +kernel
theorem dX5_event_154 : decode cX5_event 154 = .ok (.iconst 1, 1) := by decide +kernel
theorem dX5_event_155 : decode cX5_event 155 = .ok (.iadd, 1) := by decide +kernel
theorem dX5_event_156 : decode cX5_event 156 = .ok (.putfield 151, 3) := by decide +kernel
theorem dX5_event_159 : decode cX5_event 159 = .ok (.aload_n 0, 1) := by decide +kernel
theorem dX5_event_160 : decode cX5_event 160 = .ok (.getfield 151, 3) := by decide +kernel
theorem dX5_event_163 : decode cX5_event 163 = .ok (.ireturn, 1) := by decide +kernel
theorem dX5_won_0 : decode cX5_won 0 = .ok (.iconst (-1), 1) := by decide +kernel
theorem dX5_won_1 : decode cX5_won 1 = .ok (.istore_n 1, 1) := by decide +kernel
theorem dX5_won_2 : decode cX5_won 2 = .ok (.iconst 0, 1) := by decide +kernel
theorem dX5_won_3 : decode cX5_won 3 = .ok (.istore_n 2, 1) := by decide +kernel
theorem dX5_won_4 : decode cX5_won 4 = .ok (.iload_n 2, 1) := by decide +kernel
theorem dX5_won_5 : decode cX5_won 5 = .ok (.aload_n 0, 1) := by decide +kernel
theorem dX5_won_6 : decode cX5_won 6 = .ok (.getfield 148, 3) := by decide +kernel
theorem dX5_won_9 : decode cX5_won 9 = .ok (.if_icmp .ge 73, 3) := by decide +kernel
theorem dX5_won_12 : decode cX5_won 12 = .ok (.aload_n 0, 1) := by decide +kernel
theorem dX5_won_13 : decode cX5_won 13 = .ok (.getfield 36, 3) := by decide +kernel
theorem dX5_won_16 : decode cX5_won 16 = .ok (.iload_n 2, 1) := by decide +kernel
theorem dX5_won_17 : decode cX5_won 17 = .ok (.iaload, 1) := by decide +kernel
theorem dX5_won_18 : decode cX5_won 18 = .ok (.iconst 2, 1) := by decide +kernel
theorem dX5_won_19 : decode cX5_won 19 = .ok (.if_icmp .le 5, 3) := by decide +kernel
theorem dX5_won_22 : decode cX5_won 22 = .ok (.iload_n 2, 1) := by decide +kernel
theorem dX5_won_23 : decode cX5_won 23 = .ok (.ireturn, 1) := by decide +kernel
theorem dX5_won_24 : decode cX5_won 24 = .ok (.iload_n 1, 1) := by decide +kernel
theorem dX5_won_25 : decode cX5_won 25 = .ok (.iconst (-1), 1) := by decide +kernel
theorem dX5_won_26 : decode cX5_won 26 = .ok (.if_icmp .eq 48, 3) := by decide +kernel
theorem dX5_won_29 : decode cX5_won 29 = .ok (.aload_n 0, 1) := by decide +kernel
theorem dX5_won_30 : decode cX5_won 30 = .ok (.getfield 36, 3) := by decide +kernel
theorem dX5_won_33 : decode cX5_won 33 = .ok (.iload_n 2, 1) := by decide +kernel
theorem dX5_won_34 : decode cX5_won 34 = .ok (.iaload, 1) := by decide +kernel
theorem dX5_won_35 : decode cX5_won 35 = .ok (.aload_n 0, 1) := by decide +kernel
theorem dX5_won_36 : decode cX5_won 36 = .ok (.getfield 36, 3) := by decide +kernel
theorem dX5_won_39 : decode cX5_won 39 = .ok (.iload_n 1, 1) := by decide +kernel
theorem dX5_won_40 : decode cX5_won 40 = .ok (.iaload, 1) := by decide +kernel
theorem dX5_won_41 : decode cX5_won 41 = .ok (.if_icmp .gt 33, 3) := by decide +kernel
theorem dX5_won_44 : decode cX5_won 44 = .ok (.aload_n 0, 1) := by decide +kernel
theorem dX5_won_45 : decode cX5_won 45 = .ok (.getfield 36, 3) := by decide +kernel
theorem dX5_won_48 : decode cX5_won 48 = .ok (.iload_n 2, 1) := by decide +kernel
theorem dX5_won_49 : decode cX5_won 49 = .ok (.iaload, 1) := by decide +kernel
theorem dX5_won_50 : decode cX5_won 50 = .ok (.aload_n 0, 1) := by decide +kernel
theorem dX5_won_51 : decode cX5_won 51 = .ok (.getfield 36, 3) := by decide +kernel
theorem dX5_won_54 : decode cX5_won 54 = .ok (.iload_n 1, 1) := by decide +kernel
theorem dX5_won_55 : decode cX5_won 55 = .ok (.iaload, 1) := by decide +kernel
theorem dX5_won_56 : decode cX5_won 56 = .ok (.if_icmp .ne 20, 3) := by decide +kernel
theorem dX5_won_59 : decode cX5_won 59 = .ok (.aload_n 0, 1) := by decide +kernel
theorem dX5_won_60 : decode cX5_won 60 = .ok (.getfield 39, 3) := by decide +kernel
theorem dX5_won_63 : decode cX5_won 63 = .ok (.iload_n 2, 1) := by decide +kernel
theorem dX5_won_64 : decode cX5_won 64 = .ok (.iaload, 1) := by decide +kernel
theorem dX5_won_65 : decode cX5_won 65 = .ok (.aload_n 0, 1) := by decide +kernel
theorem dX5_won_66 : decode cX5_won 66 = .ok (.getfield 39, 3) := by decide +kernel
theorem dX5_won_69 : decode cX5_won 69 = .ok (.iload_n 1, 1) := by decide +kernel
theorem dX5_won_70 : decode cX5_won 70 = .ok (.iaload, 1) := by decide +kernel
theorem dX5_won_71 : decode cX5_won 71 = .ok (.if_icmp .ge 5, 3) := by decide +kernel
theorem dX5_won_74 : decode cX5_won 74 = .ok (.iload_n 2, 1) := by decide +kernel
theorem dX5_won_75 : decode cX5_won 75 = .ok (.istore_n 1, 1) := by decide +kernel
theorem dX5_won_76 : decode cX5_won 76 = .ok (.iinc 2 1, 3) := by decide +kernel
theorem dX5_won_79 : decode cX5_won 79 = .ok (.goto (-75), 3) := by decide +kernel
theorem dX5_won_82 : decode cX5_won 82 = .ok (.aload_n 0, 1) := by decide +kernel
theorem dX5_won_83 : decode cX5_won 83 = .ok (.getfield 151, 3) := by decide +kernel
theorem dX5_won_86 : decode cX5_won 86 = .ok (.iconst 5, 1) := by decide +kernel
theorem dX5_won_87 : decode cX5_won 87 = .ok (.if_icmp .ne 7, 3) := by decide +kernel
theorem dX5_won_90 : decode cX5_won 90 = .ok (.iload_n 1, 1) := by decide +kernel
theorem dX5_won_91 : decode cX5_won 91 = .ok (.goto 4, 3) := by decide +kernel
theorem dX5_won_94 : decode cX5_won 94 = .ok (.iconst (-1), 1) := by decide +kernel
theorem dX5_won_95 : decode cX5_won 95 = .ok (.ireturn, 1) := by decide +kernel
set_option maxRecDepth 20000 in
theorem ggX5_can_X5_won : GoodIn wsX5_can wsX5_won := goodIn_r _ [9, 3, 2, 4, 1, 10, 11, 12, 13, 14, 15, 16, 17, 18, 19, 20, 21, 22, 23, 24, 25, 26, 27, 28, 29, 30, 31, 32, 33, 34, 35, 36, 37, 38, 39, 40, 41, 42, 43, 44, 45, 46, 47, 48, 49, 50, 51, 52, 53] (by decide +kernel) (by decide +kernel)
set_option maxRecDepth 20000 in
theorem gX5_can_X5_won : GoodIn wsX5_can (wsV RX5 154 RX5 yX5_won wsX5_won) := goodIn_app (goodIn_of _ (by decide +kernel)) ggX5_can_X5_won
theorem dX5_can_0 : decode cX5_can 0 = .ok (.aload_n 0, 1) := by decide +kernel
theorem dX5_can_1 : decode cX5_can 1 = .ok (.invokevirtual 154, 3) := by decide +kernel
theorem dX5_can_4 : decode cX5_can 4 = .ok (.istore_n 2, 1) := by decide +kernel
theorem dX5_can_5 : decode cX5_can 5 = .ok (.iload_n 2, 1) := by decide +kernel
theorem dX5_can_6 : decode cX5_can 6 = .ok (.iconst (-1), 1) := by decide +kernel
theorem dX5_can_7 : decode cX5_can 7 = .ok (.if_icmp .eq 14, 3) := by decide +kernel
theorem dX5_can_10 : decode cX5_can 10 = .ok (.iload_n 2, 1) := by decide +kernel
theorem dX5_can_11 : decode cX5_can 11 = .ok (.iload_n 1, 1) := by decide +kernel
theorem dX5_can_12 : decode cX5_can 12 = .ok (.if_icmp .ne 7, 3) := by decide +kernel
theorem dX5_can_15 : decode cX5_can 15 = .ok (.iconst 1, 1) := by decide +kernel
theorem dX5_can_16 : decode cX5_can 16 = .ok (.goto 4, 3) := by decide +kernel
theorem dX5_can_19 : decode cX5_can 19 = .ok (.iconst 0, 1) := by decide +kernel
theorem dX5_can_20 : decode cX5_can 20 = .ok (.ireturn, 1) := by decide +kernel
theorem dX5_can_21 : decode cX5_can 21 = .ok (.iconst 5, 1) := by decide +kernel
theorem dX5_can_22 : decode cX5_can 22 = .ok (.aload_n 0, 1) := by decide +kernel
theorem dX5_can_23 : decode cX5_can 23 = .ok (.getfield 151, 3) := by decide +kernel
theorem dX5_can_26 : decode cX5_can 26 = .ok (.isub, 1) := by decide +kernel
theorem dX5_can_27 : decode cX5_can 27 = .ok (.istore_n 3, 1) := by decide +kernel
theorem dX5_can_28 : decode cX5_can 28 = .ok (.aload_n 0, 1) := by decide +kernel
theorem dX5_can_29 : decode cX5_can 29 = .ok (.getfield 36, 3) := by decide +kernel
theorem dX5_can_32 : decode cX5_can 32 = .ok (.iload_n 1, 1) := by decide +kernel
theorem dX5_can_33 : decode cX5_can 33 = .ok (.iaload, 1) := by decide +kernel
theorem dX5_can_34 : decode cX5_can 34 = .ok (.iload_n 3, 1) := by decide +kernel
theorem dX5_can_35 : decode cX5_can 35 = .ok (.iadd, 1) := by decide +kernel
theorem dX5_can_36 : decode cX5_can 36 = .ok (.istore 4, 2) := by decide +kernel
theorem dX5_can_38 : decode cX5_can 38 = .ok (.iload 4, 2) := by decide +kernel
theorem dX5_can_40 : decode cX5_can 40 = .ok (.iconst 2, 1) := by decide +kernel
theorem dX5_can_41 : decode cX5_can 41 = .ok (.if_icmp .le 5, 3) := by decide +kernel
theorem dX5_can_44 : decode cX5_can 44 = .ok (.iconst 1, 1) := by decide +kernel
theorem dX5_can_45 : decode cX5_can 45 = .ok (.ireturn, 1) := by decide +kernel
theorem dX5_can_46 : decode cX5_can 46 = .ok (.iconst 0, 1) := by decide +kernel
theorem dX5_can_47 : decode cX5_can 47 = .ok (.istore 5, 2) := by decide +kernel
theorem dX5_can_49 : decode cX5_can 49 = .ok (.iload 5, 2) := by decide +kernel
theorem dX5_can_51 : decode cX5_can 51 = .ok (.aload_n 0, 1) := by decide +kernel
theorem dX5_can_52 : decode cX5_can 52 = .ok (.getfield 148, 3) := by decide +kernel
theorem dX5_can_55 : decode cX5_can 55 = .ok (.if_icmp .ge 92, 3) := by decide +kernel
theorem dX5_can_58 : decode cX5_can 58 = .ok (.iload 5, 2) := by decide +kernel
theorem dX5_can_60 : decode cX5_can 60 = .ok (.iload_n 1, 1) := by decide +kernel
theorem dX5_can_61 : decode cX5_can 61 = .ok (.if_icmp .eq 80, 3) := by decide +kernel
theorem dX5_can_64 : decode cX5_can 64 = .ok (.aload_n 0, 1) := by decide +kernel
theorem dX5_can_65 : decode cX5_can 65 = .ok (.getfield 36, 3) := by decide +kernel
theorem dX5_can_68 : decode cX5_can 68 = .ok (.iload 5, 2) := by decide +kernel
theorem dX5_can_70 : decode cX5_can 70 = .ok (.iaload, 1) := by decide +kernel
theorem dX5_can_71 : decode cX5_can 71 = .ok (.iload 4, 2) := by decide +kernel
theorem dX5_can_73 : decode cX5_can 73 = .ok (.if_icmp .ge 6, 3) := by decide +kernel
theorem dX5_can_76 : decode cX5_can 76 = .ok (.goto 65, 3) := by decide +kernel
theorem dX5_can_79 : decode cX5_can 79 = .ok (.aload_n 0, 1) := by decide +kernel
theorem dX5_can_80 : decode cX5_can 80 = .ok (.getfield 36, 3) := by decide +kernel
theorem dX5_can_83 : decode cX5_can 83 = .ok (.iload 5, 2) := by decide +kernel
theorem dX5_can_85 : decode cX5_can 85 = .ok (.iaload, 1) := by decide +kernel
theorem dX5_can_86 : decode cX5_can 86 = .ok (.iload 4, 2) := by decide +kernel
theorem dX5_can_88 : decode cX5_can 88 = .ok (.if_icmp .le 5, 3) := by decide +kernel
theorem dX5_can_91 : decode cX5_can 91 = .ok (.iconst 0, 1) := by decide +kernel
theorem dX5_can_92 : decode cX5_can 92 = .ok (.ireturn, 1) := by decide +kernel
theorem dX5_can_93 : decode cX5_can 93 = .ok (.aload_n 0, 1) := by decide +kernel
theorem dX5_can_94 : decode cX5_can 94 = .ok (.getfield 39, 3) := by decide +kernel
theorem dX5_can_97 : decode cX5_can 97 = .ok (.iload_n 1, 1) := by decide +kernel
theorem dX5_can_98 : decode cX5_can 98 = .ok (.iaload, 1) := by decide +kernel
theorem dX5_can_99 : decode cX5_can 99 = .ok (.iload_n 3, 1) := by decide +kernel
theorem dX5_can_100 : decode cX5_can 100 = .ok (.iadd, 1) := by decide +kernel
theorem dX5_can_101 : decode cX5_can 101 = .ok (.istore 6, 2) := by decide +kernel
theorem dX5_can_103 : decode cX5_can 103 = .ok (.aload_n 0, 1) := by decide +kernel
theorem dX5_can_104 : decode cX5_can 104 = .ok (.getfield 39, 3) := by decide +kernel
theorem dX5_can_107 : decode cX5_can 107 = .ok (.iload 5, 2) := by decide +kernel
theorem dX5_can_109 : decode cX5_can 109 = .ok (.iaload, 1) := by decide +kernel
theorem dX5_can_110 : decode cX5_can 110 = .ok (.iload_n 3, 1) := by decide +kernel
theorem dX5_can_111 : decode cX5_can 111 = .ok (.aload_n 0, 1) := by decide +kernel
theorem dX5_can_112 : decode cX5_can 112 = .ok (.getfield 148, 3) := by decide +kernel
theorem dX5_can_115 : decode cX5_can 115 = .ok (.imul, 1) := by decide +kernel
theorem dX5_can_116 : decode cX5_can 116 = .ok (.iadd, 1) := by decide +kernel
theorem dX5_can_117 : decode cX5_can 117 = .ok (.istore 7, 2) := by decide +kernel
theorem dX5_can_119 : decode cX5_can 119 = .ok (.iload 7, 2) := by decide +kernel
theorem dX5_can_121 : decode cX5_can 121 = .ok (.iload 6, 2) := by decide +kernel
theorem dX5_can_123 : decode cX5_can 123 = .ok (.if_icmp .lt 16, 3) := by decide +kernel
theorem dX5_can_126 : decode cX5_can 126 = .ok (.iload 7, 2) := by decide +kernel
theorem dX5_can_128 : decode cX5_can 128 = .ok (.iload 6, 2) := by decide +kernel
theorem dX5_can_130 : decode cX5_can 130 = .ok (.if_icmp .ne 11, 3) := by decide +kernel
theorem dX5_can_133 : decode cX5_can 133 = .ok (.iload 5, 2) := by decide +kernel
theorem dX5_can_135 : decode cX5_can 135 = .ok (.iload_n 1, 1) := by decide +kernel
theorem dX5_can_136 : decode cX5_can 136 = .ok (.if_icmp .ge 5, 3) := by decide +kernel
theorem dX5_can_139 : decode cX5_can 139 = .ok (.iconst 0, 1) := by decide +kernel
theorem dX5_can_140 : decode cX5_can 140 = .ok (.ireturn, 1) := by decide +kernel
theorem dX5_can_141 : decode cX5_can 141 = .ok (.iinc 5 1, 3) := by decide +kernel
theorem dX5_can_144 : decode cX5_can 144 = .ok (.goto (-95), 3) := by decide +kernel
theorem dX5_can_147 : decode cX5_can 147 = .ok (.iconst 1, 1) := by decide +kernel
theorem dX5_can_148 : decode cX5_can 148 = .ok (.ireturn, 1) := by decide +kernel
set_option maxRecDepth 20000 in
theorem ggX5_athlete_X5_in : GoodIn wsX5_athlete wsX5_in := goodIn_r _ [7] (by decide +kernel) (by decide +kernel)
set_option maxRecDepth 20000 in
theorem gX5_athlete_X5_in : GoodIn wsX5_athlete (va_wsS RX5 96 yX5_in wsX5_in) := goodIn_app (goodIn_of _ (by decide +kernel)) ggX5_athlete_X5_in
set_option maxRecDepth 20000 in
theorem ggX5_athlete_X5_can : GoodIn wsX5_athlete wsX5_can := goodIn_r _ [11, 12, 2, 1, 3, 13, 14, 15, 6, 16, 17, 18, 19, 20, 21, 22, 23, 24, 25, 26, 27, 28, 29, 30, 31, 32, 33, 34, 35, 36, 37, 38, 39, 40, 41, 42, 43, 44, 45, 46, 47, 48, 49, 50, 51, 52, 53, 54, 55, 56, 57, 58, 59, 60] (by decide +kernel) (by decide +kernel)
set_option maxRecDepth 20000 in
theorem gX5_athlete_X5_can : GoodIn wsX5_athlete (wsV RX5 156 RX5 yX5_can wsX5_can) := goodIn_app (goodIn_of _ (by decide +kernel)) ggX5_athlete_X5_can
theorem dX5_athlete_0 : decode cX5_athlete 0 = .ok (.iload_n 1, 1) := by decide +kernel
theorem dX5_athlete_1 : decode cX5_athlete 1 = .ok (.iconst 0, 1) := by decide +kernel
theorem dX5_athlete_2 : decode cX5_athlete 2 = .ok (.aload_n 0, 1) := by decide +kernel
theorem dX5_athlete_3 : decode cX5_athlete 3 = .ok (.getfield 148, 3) := by decide +kernel
theorem dX5_athlete_6 : decode cX5_athlete 6 = .ok (.iconst 1, 1) := by decide +kernel
theorem dX5_athlete_7 : decode cX5_athlete 7 = .ok (.isub, 1) := by decide +kernel
theorem dX5_athlete_8 : decode cX5_athlete 8 = .ok (.invokestatic 96, 3) := by decide +kernel
theorem dX5_athlete_11 : decode cX5_athlete 11 = .ok (.ifCond .ne 5, 3) := by decide +kernel
theorem dX5_athlete_14 : decode cX5_athlete 14 = .ok (.iconst (-1), 1) := by decide +kernel
theorem dX5_athlete_15 : decode cX5_athlete 15 = .ok (.ireturn, 1) := by decide +kernel
theorem dX5_athlete_16 : decode cX5_athlete 16 = .ok (.iload_n 2, 1) := by decide +kernel
theorem dX5_athlete_17 : decode cX5_athlete 17 = .ok (.ifCond .ne 12, 3) := by decide +kernel
theorem dX5_athlete_20 : decode cX5_athlete 20 = .ok (.aload_n 0, 1) := by decide +kernel
theorem dX5_athlete_21 : decode cX5_athlete 21 = .ok (.getfield 36, 3) := by decide +kernel
theorem dX5_athlete_24 : decode cX5_athlete 24 = .ok (.iload_n 1, 1) := by decide +kernel
theorem dX5_athlete_25 : decode cX5_athlete 25 = .ok (.iaload, 1) := by decide +kernel
theorem dX5_athlete_26 : decode cX5_athlete 26 = .ok (.goto 39, 3) := by decide +kernel
theorem dX5_athlete_29 : decode cX5_athlete 29 = .ok (.iload_n 2, 1) := by decide +kernel
theorem dX5_athlete_30 : decode cX5_athlete 30 = .ok (.iconst 1, 1) := by decide +kernel
theorem dX5_athlete_31 : decode cX5_athlete 31 = .ok (.if_icmp .ne 12, 3) := by decide +kernel
theorem dX5_athlete_34 : decode cX5_athlete 34 = .ok (.aload_n 0, 1) := by decide +kernel
theorem dX5_athlete_35 : decode cX5_athlete 35 = .ok (.getfield 39, 3) := by decide +kernel
theorem dX5_athlete_38 : decode cX5_athlete 38 = .ok (.iload_n 1, 1) := by decide +kernel
theorem dX5_athlete_39 : decode cX5_athlete 39 = .ok (.iaload, 1) := by decide +kernel
theorem dX5_athlete_40 : decode cX5_athlete 40 = .ok (.goto 25, 3) := by decide +kernel
theorem dX5_athlete_43 : decode cX5_athlete 43 = .ok (.iload_n 2, 1) := by decide +kernel
theorem dX5_athlete_44 : decode cX5_athlete 44 = .ok (.iconst 2, 1) := by decide +kernel
theorem dX5_athlete_45 : decode cX5_athlete 45 = .ok (.if_icmp .ne 19, 3) := by decide +kernel
theorem dX5_athlete_48 : decode cX5_athlete 48 = .ok (.aload_n 0, 1) := by decide +kernel
theorem dX5_athlete_49 : decode cX5_athlete 49 = .ok (.iload_n 1, 1) := by decide +kernel
theorem dX5_athlete_50 : decode cX5_athlete 50 = .ok (.invokevirtual 156, 3) := by decide +kernel
theorem dX5_athlete_53 : decode cX5_athlete 53 = .ok (.ifCond .eq 7, 3) := by decide +kernel
theorem dX5_athlete_56 : decode cX5_athlete 56 = .ok (.iconst 1, 1) := by decide +kernel
theorem dX5_athlete_57 : decode cX5_athlete 57 = .ok (.goto 8, 3) := by decide +kernel
theorem dX5_athlete_60 : decode cX5_athlete 60 = .ok (.iconst 0, 1) := by decide +kernel
theorem dX5_athlete_61 : decode cX5_athlete 61 = .ok (.goto 4, 3) := by decide +kernel
theorem dX5_athlete_64 : decode cX5_athlete 64 = .ok (.iconst (-1), 1) := by decide +kernel
theorem dX5_athlete_65 : decode cX5_athlete 65 = .ok (.ireturn, 1) := by decide +kernel
set_option maxRecDepth 20000 in
theorem ggX5_track_X5_in : GoodIn wsX5_track wsX5_in := goodIn_r _ [10] (by decide +kernel) (by decide +kernel)
set_option maxRecDepth 20000 in
theorem gX5_track_X5_in : GoodIn wsX5_track (va_wsS RX5 96 yX5_in wsX5_in) := goodIn_app (goodIn_of _ (by decide +kernel)) ggX5_track_X5_in
