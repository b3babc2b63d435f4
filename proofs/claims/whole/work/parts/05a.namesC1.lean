theorem dX10_init_0 : decode cX10_init 0 = .ok (.aload_n 0, 1) := by decide +kernel
theorem dX10_init_1 : decode cX10_init 1 = .ok (.invokespecial 1, 3) := by decide +kernel
theorem dX10_init_4 : decode cX10_init 4 = .ok (.aload_n 0, 1) := by decide +kernel
theorem dX10_init_5 : decode cX10_init 5 = .ok (.bipush 8, 2) := by decide +kernel
theorem dX10_init_7 : decode cX10_init 7 = .ok (.newarray .int, 2) := by decide +kernel
theorem dX10_init_9 : decode cX10_init 9 = .ok (.putfield 7, 3) := by decide +kernel
theorem dX10_init_12 : decode cX10_init 12 = .ok (.aload_n 0, 1) := by decide +kernel
theorem dX10_init_13 : decode cX10_init 13 = .ok (.bipush 8, 2) := by decide +kernel
theorem dX10_init_15 : decode cX10_init 15 = .ok (.newarray .int, 2) := by decide +kernel
theorem dX10_init_17 : decode cX10_init 17 = .ok (.putfield 13, 3) := by decide +kernel
theorem dX10_init_20 : decode cX10_init 20 = .ok (.aload_n 0, 1) := by decide +kernel
theorem dX10_init_21 : decode cX10_init 21 = .ok (.bipush 8, 2) := by decide +kernel
theorem dX10_init_23 : decode cX10_init 23 = .ok (.newarray .int, 2) := by decide +kernel
theorem dX10_init_25 : decode cX10_init 25 = .ok (.putfield 16, 3) := by decide +kernel
theorem dX10_init_28 : decode cX10_init 28 = .ok (.aload_n 0, 1) := by decide +kernel
theorem dX10_init_29 : decode cX10_init 29 = .ok (.bipush 8, 2) := by decide +kernel
theorem dX10_init_31 : decode cX10_init 31 = .ok (.newarray .int, 2) := by decide +kernel
theorem dX10_init_33 : decode cX10_init 33 = .ok (.putfield 19, 3) := by decide +kernel
theorem dX10_init_36 : decode cX10_init 36 = .ok (.aload_n 0, 1) := by decide +kernel
theorem dX10_init_37 : decode cX10_init 37 = .ok (.bipush 8, 2) := by decide +kernel
theorem dX10_init_39 : decode cX10_init 39 = .ok (.newarray .int, 2) := by decide +kernel
theorem dX10_init_41 : decode cX10_init 41 = .ok (.putfield 22, 3) := by decide +kernel
theorem dX10_init_44 : decode cX10_init 44 = .ok (.aload_n 0, 1) := by decide +kernel
theorem dX10_init_45 : decode cX10_init 45 = .ok (.sipush 224, 3) := by decide +kernel
theorem dX10_init_48 : decode cX10_init 48 = .ok (.newarray .int, 2) := by decide +kernel
theorem dX10_init_50 : decode cX10_init 50 = .ok (.putfield 25, 3) := by decide +kernel
theorem dX10_init_53 : decode cX10_init 53 = .ok (.aload_n 0, 1) := by decide +kernel
theorem dX10_init_54 : decode cX10_init 54 = .ok (.bipush 31, 2) := by decide +kernel
theorem dX10_init_56 : decode cX10_init 56 = .ok (.newarray .boolean, 2) := by decide +kernel
theorem dX10_init_58 : decode cX10_init 58 = .ok (.putfield 28, 3) := by decide +kernel
theorem dX10_init_61 : decode cX10_init 61 = .ok (.aload_n 0, 1) := by decide +kernel
theorem dX10_init_62 : decode cX10_init 62 = .ok (.bipush 12, 2) := by decide +kernel
theorem dX10_init_64 : decode cX10_init 64 = .ok (.newarray .int, 2) := by decide +kernel
theorem dX10_init_66 : decode cX10_init 66 = .ok (.putfield 32, 3) := by decide +kernel
theorem dX10_init_69 : decode cX10_init 69 = .ok (.aload_n 0, 1) := by decide +kernel
theorem dX10_init_70 : decode cX10_init 70 = .ok (.bipush 12, 2) := by decide +kernel
theorem dX10_init_72 : decode cX10_init 72 = .ok (.newarray .int, 2) := by decide +kernel
theorem dX10_init_74 : decode cX10_init 74 = .ok (.putfield 35, 3) := by decide +kernel
theorem dX10_init_77 : decode cX10_init 77 = .ok (.aload_n 0, 1) := by decide +kernel
theorem dX10_init_78 : decode cX10_init 78 = .ok (.bipush 12, 2) := by decide +kernel
theorem dX10_init_80 : decode cX10_init 80 = .ok (.newarray .int, 2) := by decide +kernel
theorem dX10_init_82 : decode cX10_init 82 = .ok (.putfield 38, 3) := by decide +kernel
theorem dX10_init_85 : decode cX10_init 85 = .ok (.aload_n 0, 1) := by decide +kernel
theorem dX10_init_86 : decode cX10_init 86 = .ok (.bipush 12, 2) := by decide +kernel
theorem dX10_init_88 : decode cX10_init 88 = .ok (.newarray .int, 2) := by decide +kernel
theorem dX10_init_90 : decode cX10_init 90 = .ok (.putfield 41, 3) := by decide +kernel
theorem dX10_init_93 : decode cX10_init 93 = .ok (.aload_n 0, 1) := by decide +kernel
theorem dX10_init_94 : decode cX10_init 94 = .ok (.bipush 12, 2) := by decide +kernel
theorem dX10_init_96 : decode cX10_init 96 = .ok (.newarray .boolean, 2) := by decide +kernel
theorem dX10_init_98 : decode cX10_init 98 = .ok (.putfield 44, 3) := by decide +kernel
theorem dX10_init_101 : decode cX10_init 101 = .ok (.aload_n 0, 1) := by decide +kernel
theorem dX10_init_102 : decode cX10_init 102 = .ok (.bipush 8, 2) := by decide +kernel
theorem dX10_init_104 : decode cX10_init 104 = .ok (.newarray .int, 2) := by decide +kernel
theorem dX10_init_106 : decode cX10_init 106 = .ok (.dup, 1) := by decide +kernel
theorem dX10_init_107 : decode cX10_init 107 = .ok (.iconst 0, 1) := by decide +kernel
theorem dX10_init_108 : decode cX10_init 108 = .ok (.iconst (-1), 1) := by decide +kernel
theorem dX10_init_109 : decode cX10_init 109 = .ok (.iastore, 1) := by decide +kernel
theorem dX10_init_110 : decode cX10_init 110 = .ok (.dup, 1) := by decide +kernel
theorem dX10_init_111 : decode cX10_init 111 = .ok (.iconst 1, 1) := by decide +kernel
theorem dX10_init_112 : decode cX10_init 112 = .ok (.iconst (-1), 1) := by decide +kernel
theorem dX10_init_113 : decode cX10_init 113 = .ok (.iastore, 1) := by decide +kernel
theorem dX10_init_114 : decode cX10_init 114 = .ok (.dup, 1) := by decide +kernel
theorem dX10_init_115 : decode cX10_init 115 = .ok (.iconst 2, 1) := by decide +kernel
theorem dX10_init_116 : decode cX10_init 116 = .ok (.iconst (-1), 1) := by decide +kernel
theorem dX10_init_117 : decode cX10_init 117 = .ok (.iastore, 1) := by decide +kernel
theorem dX10_init_118 : decode cX10_init 118 = .ok (.dup, 1) := by decide +kernel
theorem dX10_init_119 : decode cX10_init 119 = .ok (.iconst 3, 1) := by decide +kernel
theorem dX10_init_120 : decode cX10_init 120 = .ok (.iconst (-1), 1) := by decide +kernel
theorem dX10_init_121 : decode cX10_init 121 = .ok (.iastore, 1) := by decide +kernel
theorem dX10_init_122 : decode cX10_init 122 = .ok (.dup, 1) := by decide +kernel
theorem dX10_init_123 : decode cX10_init 123 = .ok (.iconst 4, 1) := by decide +kernel
theorem dX10_init_124 : decode cX10_init 124 = .ok (.iconst (-1), 1) := by decide +kernel
theorem dX10_init_125 : decode cX10_init 125 = .ok (.iastore, 1) := by decide +kernel
theorem dX10_init_126 : decode cX10_init 126 = .ok (.dup, 1) := by decide +kernel
theorem dX10_init_127 : decode cX10_init 127 = .ok (.iconst 5, 1) := by decide +kernel
theorem dX10_init_128 : decode cX10_init 128 = .ok (.iconst (-1), 1) := by decide +kernel
theorem dX10_init_129 : decode cX10_init 129 = .ok (.iastore, 1) := by decide +kernel
theorem dX10_init_130 : decode cX10_init 130 = .ok (.dup, 1) := by decide +kernel
theorem dX10_init_131 : decode cX10_init 131 = .ok (.bipush 6, 2) := by decide +kernel
theorem dX10_init_133 : decode cX10_init 133 = .ok (.iconst (-1), 1) := by decide +kernel
theorem dX10_init_134 : decode cX10_init 134 = .ok (.iastore, 1) := by decide +kernel
theorem dX10_init_135 : decode cX10_init 135 = .ok (.dup, 1) := by decide +kernel
theorem dX10_init_136 : decode cX10_init 136 = .ok (.bipush 7, 2) := by decide +kernel
theorem dX10_init_138 : decode cX10_init 138 = .ok (.iconst (-1), 1) := by decide +kernel
theorem dX10_init_139 : decode cX10_init 139 = .ok (.iastore, 1) := by decide +kernel
theorem dX10_init_140 : decode cX10_init 140 = .ok (.putfield 47, 3) := by decide +kernel
theorem dX10_init_143 : decode cX10_init 143 = .ok (.aload_n 0, 1) := by decide +kernel
theorem dX10_init_144 : decode cX10_init 144 = .ok (.bipush 8, 2) := by decide +kernel
theorem dX10_init_146 : decode cX10_init 146 = .ok (.newarray .int, 2) := by decide +kernel
theorem dX10_init_148 : decode cX10_init 148 = .ok (.putfield 50, 3) := by decide +kernel
theorem dX10_init_151 : decode cX10_init 151 = .ok (.aload_n 0, 1) := by decide +kernel
theorem dX10_init_152 : decode cX10_init 152 = .ok (.bipush 8, 2) := by decide +kernel
theorem dX10_init_154 : decode cX10_init 154 = .ok (.newarray .int, 2) := by decide +kernel
theorem dX10_init_156 : decode cX10_init 156 = .ok (.putfield 53, 3) := by decide +kernel
theorem dX10_init_159 : decode cX10_init 159 = .ok (.aload_n 0, 1) := by decide +kernel
theorem dX10_init_160 : decode cX10_init 160 = .ok (.sipush 2408, 3) := by decide +kernel
theorem dX10_init_163 : decode cX10_init 163 = .ok (.newarray .int, 2) := by decide +kernel
theorem dX10_init_165 : decode cX10_init 165 = .ok (.putfield 56, 3) := by decide +kernel
theorem dX10_init_168 : decode cX10_init 168 = .ok (.aload_n 0, 1) := by decide +kernel
theorem dX10_init_169 : decode cX10_init 169 = .ok (.bipush 20, 2) := by decide +kernel
theorem dX10_init_171 : decode cX10_init 171 = .ok (.newarray .int, 2) := by decide +kernel
theorem dX10_init_173 : decode cX10_init 173 = .ok (.putfield 59, 3) := by decide +kernel
theorem dX10_init_176 : decode cX10_init 176 = .ok (.aload_n 0, 1) := by decide +kernel
theorem dX10_init_177 : decode cX10_init 177 = .ok (.bipush 20, 2) := by decide +kernel
theorem dX10_init_179 : decode cX10_init 179 = .ok (.newarray .int, 2) := by decide +kernel
theorem dX10_init_181 : decode cX10_init 181 = .ok (.putfield 62, 3) := by decide +kernel
theorem dX10_init_184 : decode cX10_init 184 = .ok (.aload_n 0, 1) := by decide +kernel
theorem dX10_init_185 : decode cX10_init 185 = .ok (.bipush 20, 2) := by decide +kernel
theorem dX10_init_187 : decode cX10_init 187 = .ok (.newarray .int, 2) := by decide +kernel
theorem dX10_init_189 : decode cX10_init 189 = .ok (.putfield 65, 3) := by decide +kernel
theorem dX10_init_192 : decode cX10_init 192 = .ok (.aload_n 0, 1) := by decide +kernel
theorem dX10_init_193 : decode cX10_init 193 = .ok (.bipush 60, 2) := by decide +kernel
theorem dX10_init_195 : decode cX10_init 195 = .ok (.newarray .int, 2) := by decide +kernel
theorem dX10_init_197 : decode cX10_init 197 = .ok (.putfield 68, 3) := by decide +kernel
theorem dX10_init_200 : decode cX10_init 200 = .ok (.aload_n 0, 1) := by decide +kernel
theorem dX10_init_201 : decode cX10_init 201 = .ok (.bipush 20, 2) := by decide +kernel
theorem dX10_init_203 : decode cX10_init 203 = .ok (.newarray .int, 2) := by decide +kernel
theorem dX10_init_205 : decode cX10_init 205 = .ok (.putfield 71, 3) := by decide +kernel
theorem dX10_init_208 : decode cX10_init 208 = .ok (.aload_n 0, 1) := by decide +kernel
theorem dX10_init_209 : decode cX10_init 209 = .ok (.bipush 20, 2) := by decide +kernel
theorem dX10_init_211 : decode cX10_init 211 = .ok (.newarray .boolean, 2) := by decide +kernel
theorem dX10_init_213 : decode cX10_init 213 = .ok (.putfield 74, 3) := by decide +kernel
theorem dX10_init_216 : decode cX10_init 216 = .ok (.aload_n 0, 1) := by decide +kernel
theorem dX10_init_217 : decode cX10_init 217 = .ok (.bipush 12, 2) := by decide +kernel
theorem dX10_init_219 : decode cX10_init 219 = .ok (.newarray .int, 2) := by decide +kernel
theorem dX10_init_221 : decode cX10_init 221 = .ok (.putfield 77, 3) := by decide +kernel
theorem dX10_init_224 : decode cX10_init 224 = .ok (.aload_n 0, 1) := by decide +kernel
theorem dX10_init_225 : decode cX10_init 225 = .ok (.sipush 301, 3) := by decide +kernel
theorem dX10_init_228 : decode cX10_init 228 = .ok (.newarray .int, 2) := by decide +kernel
theorem dX10_init_230 : decode cX10_init 230 = .ok (.putfield 80, 3) := by decide +kernel
theorem dX10_init_233 : decode cX10_init 233 = .ok (.aload_n 0, 1) := by decide +kernel
theorem dX10_init_234 : decode cX10_init 234 = .ok (.getfield 25, 3) := by decide +kernel
theorem dX10_init_237 : decode cX10_init 237 = .ok (.sipush 220, 3) := by decide +kernel
theorem dX10_init_240 : decode cX10_init 240 = .ok (.iconst 1, 1) := by decide +kernel
theorem dX10_init_241 : decode cX10_init 241 = .ok (.iastore, 1) := by decide +kernel
theorem dX10_init_242 : decode cX10_init 242 = .ok (.aload_n 0, 1) := by decide +kernel
theorem dX10_init_243 : decode cX10_init 243 = .ok (.getfield 25, 3) := by decide +kernel
theorem dX10_init_246 : decode cX10_init 246 = .ok (.sipush 222, 3) := by decide +kernel
theorem dX10_init_249 : decode cX10_init 249 = .ok (.sipush 500, 3) := by decide +kernel
theorem dX10_init_252 : decode cX10_init 252 = .ok (.iastore, 1) := by decide +kernel
theorem dX10_init_253 : decode cX10_init 253 = .ok (.aload_n 0, 1) := by decide +kernel
theorem dX10_init_254 : decode cX10_init 254 = .ok (.getfield 25, 3) := by decide +kernel
theorem dX10_init_257 : decode cX10_init 257 = .ok (.sipush 223, 3) := by decide +kernel
theorem dX10_init_260 : decode cX10_init 260 = .ok (.bipush 20, 2) := by decide +kernel
theorem dX10_init_262 : decode cX10_init 262 = .ok (.iastore, 1) := by decide +kernel
theorem dX10_init_263 : decode cX10_init 263 = .ok (.return_, 1) := by decide +kernel
theorem dX10_in_0 : decode cX10_in 0 = .ok (.iload_n 0, 1) := by decide +kernel
theorem dX10_in_1 : decode cX10_in 1 = .ok (.iload_n 1, 1) := by decide +kernel
theorem dX10_in_2 : decode cX10_in 2 = .ok (.if_icmp .lt 12, 3) := by decide +kernel
theorem dX10_in_5 : decode cX10_in 5 = .ok (.iload_n 0, 1) := by decide +kernel
theorem dX10_in_6 : decode cX10_in 6 = .ok (.iload_n 2, 1) := by decide +kernel
theorem dX10_in_7 : decode cX10_in 7 = .ok (.if_icmp .gt 7, 3) := by decide +kernel
theorem dX10_in_10 : decode cX10_in 10 = .ok (.iconst 1, 1) := by decide +kernel
theorem dX10_in_11 : decode cX10_in 11 = .ok (.goto 4, 3) := by decide +kernel
theorem dX10_in_14 : decode cX10_in 14 = .ok (.iconst 0, 1) := by decide +kernel
theorem dX10_in_15 : decode cX10_in 15 = .ok (.ireturn, 1) := by decide +kernel
set_option maxRecDepth 20000 in
theorem ggX10_isHome_X10_in : GoodIn wsX10_isHome wsX10_in := goodIn_r _ [5] (by decide +kernel) (by decide +kernel)
set_option maxRecDepth 20000 in
theorem gX10_isHome_X10_in : GoodIn wsX10_isHome (va_wsS RX10 87 yX10_in wsX10_in) := goodIn_app (goodIn_of _ (by decide +kernel)) ggX10_isHome_X10_in
theorem dX10_isHome_0 : decode cX10_isHome 0 = .ok (.iload_n 1, 1) := by decide +kernel
theorem dX10_isHome_1 : decode cX10_isHome 1 = .ok (.iconst 0, 1) := by decide +kernel
theorem dX10_isHome_2 : decode cX10_isHome 2 = .ok (.aload_n 0, 1) := by decide +kernel
theorem dX10_isHome_3 : decode cX10_isHome 3 = .ok (.getfield 83, 3) := by decide +kernel
theorem dX10_isHome_6 : decode cX10_isHome 6 = .ok (.iconst 1, 1) := by decide +kernel
theorem dX10_isHome_7 : decode cX10_isHome 7 = .ok (.isub, 1) := by decide +kernel
theorem dX10_isHome_8 : decode cX10_isHome 8 = .ok (.invokestatic 87, 3) := by decide +kernel
theorem dX10_isHome_11 : decode cX10_isHome 11 = .ok (.ireturn, 1) := by decide +kernel
set_option maxRecDepth 20000 in
theorem ggX10_home_X10_in : GoodIn wsX10_home wsX10_in := goodIn_r _ [10] (by decide +kernel) (by decide +kernel)
set_option maxRecDepth 20000 in
theorem gX10_home_X10_in : GoodIn wsX10_home (va_wsS RX10 87 yX10_in wsX10_in) := goodIn_app (goodIn_of _ (by decide +kernel)) ggX10_home_X10_in
theorem dX10_home_0 : decode cX10_home 0 = .ok (.iload_n 1, 1) := by decide +kernel
theorem dX10_home_1 : decode cX10_home 1 = .ok (.iconst 0, 1) := by decide +kernel
theorem dX10_home_2 : decode cX10_home 2 = .ok (.iconst 2, 1) := by decide +kernel
theorem dX10_home_3 : decode cX10_home 3 = .ok (.invokestatic 87, 3) := by decide +kernel
theorem dX10_home_6 : decode cX10_home 6 = .ok (.ifCond .eq 33, 3) := by decide +kernel
theorem dX10_home_9 : decode cX10_home 9 = .ok (.iload_n 2, 1) := by decide +kernel
theorem dX10_home_10 : decode cX10_home 10 = .ok (.iconst 0, 1) := by decide +kernel
theorem dX10_home_11 : decode cX10_home 11 = .ok (.iconst 2, 1) := by decide +kernel
theorem dX10_home_12 : decode cX10_home 12 = .ok (.invokestatic 87, 3) := by decide +kernel
theorem dX10_home_15 : decode cX10_home 15 = .ok (.ifCond .eq 24, 3) := by decide +kernel
theorem dX10_home_18 : decode cX10_home 18 = .ok (.iload_n 3, 1) := by decide +kernel
theorem dX10_home_19 : decode cX10_home 19 = .ok (.iconst 1, 1) := by decide +kernel
theorem dX10_home_20 : decode cX10_home 20 = .ok (.bipush 9, 2) := by decide +kernel
theorem dX10_home_22 : decode cX10_home 22 = .ok (.invokestatic 87, 3) := by decide +kernel
theorem dX10_home_25 : decode cX10_home 25 = .ok (.ifCond .eq 14, 3) := by decide +kernel
theorem dX10_home_28 : decode cX10_home 28 = .ok (.iload 4, 2) := by decide +kernel
theorem dX10_home_30 : decode cX10_home 30 = .ok (.iconst 0, 1) := by decide +kernel
theorem dX10_home_31 : decode cX10_home 31 = .ok (.bipush 9, 2) := by decide +kernel
theorem dX10_home_33 : decode cX10_home 33 = .ok (.invokestatic 87, 3) := by decide +kernel
theorem dX10_home_36 : decode cX10_home 36 = .ok (.ifCond .ne 5, 3) := by decide +kernel
theorem dX10_home_39 : decode cX10_home 39 = .ok (.iconst (-1), 1) := by decide +kernel
theorem dX10_home_40 : decode cX10_home 40 = .ok (.ireturn, 1) := by decide +kernel
theorem dX10_home_41 : decode cX10_home 41 = .ok (.aload_n 0, 1) := by decide +kernel
theorem dX10_home_42 : decode cX10_home 42 = .ok (.getfield 83, 3) := by decide +kernel
theorem dX10_home_45 : decode cX10_home 45 = .ok (.bipush 8, 2) := by decide +kernel
theorem dX10_home_47 : decode cX10_home 47 = .ok (.if_icmp .ne 6, 3) := by decide +kernel
theorem dX10_home_50 : decode cX10_home 50 = .ok (.bipush (-3), 2) := by decide +kernel
theorem dX10_home_52 : decode cX10_home 52 = .ok (.ireturn, 1) := by decide +kernel
theorem dX10_home_53 : decode cX10_home 53 = .ok (.aload_n 0, 1) := by decide +kernel
theorem dX10_home_54 : decode cX10_home 54 = .ok (.getfield 7, 3) := by decide +kernel
theorem dX10_home_57 : decode cX10_home 57 = .ok (.aload_n 0, 1) := by decide +kernel
theorem dX10_home_58 : decode cX10_home 58 = .ok (.getfield 83, 3) := by decide +kernel
theorem dX10_home_61 : decode cX10_home 61 = .ok (.iload_n 1, 1) := by decide +kernel
theorem dX10_home_62 : decode cX10_home 62 = .ok (.iastore, 1) := by decide +kernel
theorem dX10_home_63 : decode cX10_home 63 = .ok (.aload_n 0, 1) := by decide +kernel
theorem dX10_home_64 : decode cX10_home 64 = .ok (.getfield 13, 3) := by decide +kernel
theorem dX10_home_67 : decode cX10_home 67 = .ok (.aload_n 0, 1) := by decide +kernel
theorem dX10_home_68 : decode cX10_home 68 = .ok (.getfield 83, 3) := by decide +kernel
theorem dX10_home_71 : decode cX10_home 71 = .ok (.iload_n 2, 1) := by decide +kernel
theorem dX10_home_72 : decode cX10_home 72 = .ok (.iastore, 1) := by decide +kernel
theorem dX10_home_73 : decode cX10_home 73 = .ok (.aload_n 0, 1) := by decide +kernel
theorem dX10_home_74 : decode cX10_home 74 = .ok (.getfield 16, 3) := by decide +kernel
theorem dX10_home_77 : decode cX10_home 77 = .ok (.aload_n 0, 1) := by decide +kernel
theorem dX10_home_78 : decode cX10_home 78 = .ok (.getfield 83, 3) := by decide +kernel
theorem dX10_home_81 : decode cX10_home 81 = .ok (.iload_n 3, 1) := by decide +kernel
theorem dX10_home_82 : decode cX10_home 82 = .ok (.iastore, 1) := by decide +kernel
theorem dX10_home_83 : decode cX10_home 83 = .ok (.aload_n 0, 1) := by decide +kernel
theorem dX10_home_84 : decode cX10_home 84 = .ok (.getfield 19, 3) := by decide +kernel
theorem dX10_home_87 : decode cX10_home 87 = .ok (.aload_n 0, 1) := by decide +kernel
theorem dX10_home_88 : decode cX10_home 88 = .ok (.getfield 83, 3) := by decide +kernel
theorem dX10_home_91 : decode cX10_home 91 = .ok (.iload 4, 2) := by decide +kernel
theorem dX10_home_93 : decode cX10_home 93 = .ok (.iastore, 1) := by decide +kernel
theorem dX10_home_94 : decode cX10_home 94 = .ok (.aload_n 0, 1) := by decide +kernel
theorem dX10_home_95 : decode cX10_home 95 = .ok (.getfield 22, 3) := by decide +kernel
theorem dX10_home_98 : decode cX10_home 98 = .ok (.aload_n 0, 1) := by decide +kernel
theorem dX10_home_99 : decode cX10_home 99 = .ok (.getfield 83, 3) := by decide +kernel
theorem dX10_home_102 : decode cX10_home 102 = .ok (.iconst 0, 1) := by decide +kernel
theorem dX10_home_103 : decode cX10_home 103 = .ok (.iastore, 1) := by decide +kernel
theorem dX10_home_104 : decode cX10_home 104 = .ok (.aload_n 0, 1) := by decide +kernel
theorem dX10_home_105 : decode cX10_home 105 = .ok (.dup, 1) := by decide +kernel
theorem dX10_home_106 : decode cX10_home 106 = .ok (.getfield 83, 3) := by decide +kernel
theorem dX10_home_109 : decode cX10_home 109 = .ok (.iconst 1, 1) := by decide +kernel
theorem dX10_home_110 : decode cX10_home 110 = .ok (.iadd, 1) := by decide +kernel
theorem dX10_home_111 : decode cX10_home 111 = .ok (.putfield 83, 3) := by decide +kernel
theorem dX10_home_114 : decode cX10_home 114 = .ok (.aload_n 0, 1) := by decide +kernel
theorem dX10_home_115 : decode cX10_home 115 = .ok (.getfield 83, 3) := by decide +kernel
theorem dX10_home_118 : decode cX10_home 118 = .ok (.iconst 1, 1) := by decide +kernel
theorem dX10_home_119 : decode cX10_home 119 = .ok (.isub, 1) := by decide +kernel
theorem dX10_home_120 : decode cX10_home 120 = .ok (.ireturn, 1) := by decide +kernel
set_option maxRecDepth 20000 in
theorem ggX10_faults_X10_isHome : GoodIn wsX10_faults wsX10_isHome := goodIn_r _ [6, 7, 8, 9, 5, 10, 11, 12, 13, 14, 15, 16, 17, 18, 19, 20, 21, 22, 23, 24, 25, 26, 27, 28, 29, 30, 31, 32, 33, 34, 35, 36, 37, 38, 39, 40] (by decide +kernel) (by decide +kernel)
set_option maxRecDepth 20000 in
theorem gX10_faults_X10_isHome : GoodIn wsX10_faults (wsV RX10 91 RX10 yX10_isHome wsX10_isHome) := goodIn_app (goodIn_of _ (by decide +kernel)) ggX10_faults_X10_isHome
set_option maxRecDepth 20000 in
theorem ggX10_faults_X10_in : GoodIn wsX10_faults wsX10_in := goodIn_r _ [10] (by decide +kernel) (by decide +kernel)
set_option maxRecDepth 20000 in
theorem gX10_faults_X10_in : GoodIn wsX10_faults (va_wsS RX10 87 yX10_in wsX10_in) := goodIn_app (goodIn_of _ (by decide +kernel)) ggX10_faults_X10_in
theorem dX10_faults_0 : decode cX10_faults 0 = .ok (.aload_n 0, 1) := by decide +kernel
theorem dX10_faults_1 : decode cX10_faults 1 = .ok (.iload_n 1, 1) := by decide +kernel
theorem dX10_faults_2 : decode cX10_faults 2 = .ok (.invokevirtual 91, 3) := by decide +kernel
theorem dX10_faults_5 : decode cX10_faults 5 = .ok (.ifCond .eq 13, 3) := by decide +kernel
theorem dX10_faults_8 : decode cX10_faults 8 = .ok (.iload_n 2, 1) := by decide +kernel
theorem dX10_faults_9 : decode cX10_faults 9 = .ok (.iconst 0, 1) := by decide +kernel
theorem dX10_faults_10 : decode cX10_faults 10 = .ok (.bipush 9, 2) := by decide +kernel
theorem dX10_faults_12 : decode cX10_faults 12 = .ok (.invokestatic 87, 3) := by decide +kernel
theorem dX10_faults_15 : decode cX10_faults 15 = .ok (.ifCond .ne 5, 3) := by decide +kernel
theorem dX10_faults_18 : decode cX10_faults 18 = .ok (.iconst (-1), 1) := by decide +kernel
theorem dX10_faults_19 : decode cX10_faults 19 = .ok (.ireturn, 1) := by decide +kernel
theorem dX10_faults_20 : decode cX10_faults 20 = .ok (.aload_n 0, 1) := by decide +kernel
theorem dX10_faults_21 : decode cX10_faults 21 = .ok (.getfield 22, 3) := by decide +kernel
theorem dX10_faults_24 : decode cX10_faults 24 = .ok (.iload_n 1, 1) := by decide +kernel
theorem dX10_faults_25 : decode cX10_faults 25 = .ok (.iaload, 1) := by decide +kernel
theorem dX10_faults_26 : decode cX10_faults 26 = .ok (.istore_n 3, 1) := by decide +kernel
theorem dX10_faults_27 : decode cX10_faults 27 = .ok (.aload_n 0, 1) := by decide +kernel
theorem dX10_faults_28 : decode cX10_faults 28 = .ok (.getfield 22, 3) := by decide +kernel
theorem dX10_faults_31 : decode cX10_faults 31 = .ok (.iload_n 1, 1) := by decide +kernel
theorem dX10_faults_32 : decode cX10_faults 32 = .ok (.iload_n 2, 1) := by decide +kernel
theorem dX10_faults_33 : decode cX10_faults 33 = .ok (.iastore, 1) := by decide +kernel
theorem dX10_faults_34 : decode cX10_faults 34 = .ok (.iload_n 3, 1) := by decide +kernel
theorem dX10_faults_35 : decode cX10_faults 35 = .ok (.ireturn, 1) := by decide +kernel
theorem dX10_pointsOf_0 : decode cX10_pointsOf 0 = .ok (.bipush 10, 2) := by decide +kernel
theorem dX10_pointsOf_2 : decode cX10_pointsOf 2 = .ok (.aload_n 0, 1) := by decide +kernel
theorem dX10_pointsOf_3 : decode cX10_pointsOf 3 = .ok (.getfield 16, 3) := by decide +kernel
theorem dX10_pointsOf_6 : decode cX10_pointsOf 6 = .ok (.iload_n 1, 1) := by decide +kernel
theorem dX10_pointsOf_7 : decode cX10_pointsOf 7 = .ok (.iaload, 1) := by decide +kernel
theorem dX10_pointsOf_8 : decode cX10_pointsOf 8 = .ok (.imul, 1) := by decide +kernel
theorem dX10_pointsOf_9 : decode cX10_pointsOf 9 = .ok (.aload_n 0, 1) := by decide +kernel
theorem dX10_pointsOf_10 : decode cX10_pointsOf 10 = .ok (.getfield 7, 3) := by decide +kernel
theorem dX10_pointsOf_13 : decode cX10_pointsOf 13 = .ok (.iload_n 1, 1) := by decide +kernel
theorem dX10_pointsOf_14 : decode cX10_pointsOf 14 = .ok (.iaload, 1) := by decide +kernel
theorem dX10_pointsOf_15 : decode cX10_pointsOf 15 = .ok (.ifCond .le 14, 3) := by decide +kernel
theorem dX10_pointsOf_18 : decode cX10_pointsOf 18 = .ok (.iconst 2, 1) := by decide +kernel
theorem dX10_pointsOf_19 : decode cX10_pointsOf 19 = .ok (.aload_n 0, 1) := by decide +kernel
theorem dX10_pointsOf_20 : decode cX10_pointsOf 20 = .ok (.getfield 19, 3) := by decide +kernel
theorem dX10_pointsOf_23 : decode cX10_pointsOf 23 = .ok (.iload_n 1, 1) := by decide +kernel
theorem dX10_pointsOf_24 : decode cX10_pointsOf 24 = .ok (.iaload, 1) := by decide +kernel
theorem dX10_pointsOf_25 : decode cX10_pointsOf 25 = .ok (.imul, 1) := by decide +kernel
theorem dX10_pointsOf_26 : decode cX10_pointsOf 26 = .ok (.goto 4, 3) := by decide +kernel
theorem dX10_pointsOf_29 : decode cX10_pointsOf 29 = .ok (.iconst 0, 1) := by decide +kernel
theorem dX10_pointsOf_30 : decode cX10_pointsOf 30 = .ok (.isub, 1) := by decide +kernel
theorem dX10_pointsOf_31 : decode cX10_pointsOf 31 = .ok (.istore_n 2, 1) := by decide +kernel
theorem dX10_pointsOf_32 : decode cX10_pointsOf 32 = .ok (.aload_n 0, 1) := by decide +kernel
theorem dX10_pointsOf_33 : decode cX10_pointsOf 33 = .ok (.getfield 7, 3) := by decide +kernel
theorem dX10_pointsOf_36 : decode cX10_pointsOf 36 = .ok (.iload_n 1, 1) := by decide +kernel
theorem dX10_pointsOf_37 : decode cX10_pointsOf 37 = .ok (.iaload, 1) := by decide +kernel
theorem dX10_pointsOf_38 : decode cX10_pointsOf 38 = .ok (.iconst 2, 1) := by decide +kernel
theorem dX10_pointsOf_39 : decode cX10_pointsOf 39 = .ok (.if_icmp .ge 5, 3) := by decide +kernel
theorem dX10_pointsOf_42 : decode cX10_pointsOf 42 = .ok (.iload_n 2, 1) := by decide +kernel
theorem dX10_pointsOf_43 : decode cX10_pointsOf 43 = .ok (.ireturn, 1) := by decide +kernel
theorem dX10_pointsOf_44 : decode cX10_pointsOf 44 = .ok (.iload_n 2, 1) := by decide +kernel
theorem dX10_pointsOf_45 : decode cX10_pointsOf 45 = .ok (.ifCond .lt 9, 3) := by decide +kernel
theorem dX10_pointsOf_48 : decode cX10_pointsOf 48 = .ok (.iload_n 2, 1) := by decide +kernel
theorem dX10_pointsOf_49 : decode cX10_pointsOf 49 = .ok (.iconst 4, 1) := by decide +kernel
theorem dX10_pointsOf_50 : decode cX10_pointsOf 50 = .ok (.idiv, 1) := by decide +kernel
theorem dX10_pointsOf_51 : decode cX10_pointsOf 51 = .ok (.goto 9, 3) := by decide +kernel
theorem dX10_pointsOf_54 : decode cX10_pointsOf 54 = .ok (.iconst 3, 1) := by decide +kernel
theorem dX10_pointsOf_55 : decode cX10_pointsOf 55 = .ok (.iload_n 2, 1) := by decide +kernel
theorem dX10_pointsOf_56 : decode cX10_pointsOf 56 = .ok (.isub, 1) := by decide +kernel
theorem dX10_pointsOf_57 : decode cX10_pointsOf 57 = .ok (.iconst 4, 1) := by decide +kernel
theorem dX10_pointsOf_58 : decode cX10_pointsOf 58 = .ok (.idiv, 1) := by decide +kernel
theorem dX10_pointsOf_59 : decode cX10_pointsOf 59 = .ok (.ineg, 1) := by decide +kernel
theorem dX10_pointsOf_60 : decode cX10_pointsOf 60 = .ok (.istore_n 3, 1) := by decide +kernel
theorem dX10_pointsOf_61 : decode cX10_pointsOf 61 = .ok (.iload_n 2, 1) := by decide +kernel
theorem dX10_pointsOf_62 : decode cX10_pointsOf 62 = .ok (.iload_n 3, 1) := by decide +kernel
theorem dX10_pointsOf_63 : decode cX10_pointsOf 63 = .ok (.isub, 1) := by decide +kernel
theorem dX10_pointsOf_64 : decode cX10_pointsOf 64 = .ok (.ireturn, 1) := by decide +kernel
set_option maxRecDepth 20000 in
theorem ggX10_points_X10_isHome : GoodIn wsX10_points wsX10_isHome := goodIn_r _ [9, 10, 11, 12, 8, 13, 20, 21, 22, 23, 24, 25, 26, 27, 28, 29, 30, 31, 32, 33, 34, 35, 36, 37, 38, 39, 40, 41, 42, 43, 44, 45, 46, 47, 48, 49] (by decide +kernel) (by decide +kernel)
set_option maxRecDepth 20000 in
theorem gX10_points_X10_isHome : GoodIn wsX10_points (wsV RX10 91 RX10 yX10_isHome wsX10_isHome) := goodIn_app (goodIn_of _ (by decide +kernel)) ggX10_points_X10_isHome
set_option maxRecDepth 20000 in
theorem ggX10_points_X10_pointsOf : GoodIn wsX10_points wsX10_pointsOf := goodIn_r _ [17, 18, 2, 19, 20, 21, 22, 23, 24, 25, 26, 27, 28, 29, 30, 31, 32, 33, 34, 35, 36, 37, 38, 39, 40, 41, 42, 43, 44, 45, 46, 47, 48, 49] (by decide +kernel) (by decide +kernel)
set_option maxRecDepth 20000 in
theorem gX10_points_X10_pointsOf : GoodIn wsX10_points (wsV RX10 103 RX10 yX10_pointsOf wsX10_pointsOf) := goodIn_app (goodIn_of _ (by decide +kernel)) ggX10_points_X10_pointsOf
theorem dX10_points_0 : decode cX10_points 0 = .ok (.aload_n 0, 1) := by decide +kernel
theorem dX10_points_1 : decode cX10_points 1 = .ok (.iload_n 1, 1) := by decide +kernel
theorem dX10_points_2 : decode cX10_points 2 = .ok (.invokevirtual 91, 3) := by decide +kernel
theorem dX10_points_5 : decode cX10_points 5 = .ok (.ifCond .ne 5, 3) := by decide +kernel
theorem dX10_points_8 : decode cX10_points 8 = .ok (.iconst (-1), 1) := by decide +kernel
theorem dX10_points_9 : decode cX10_points 9 = .ok (.ireturn, 1) := by decide +kernel
theorem dX10_points_10 : decode cX10_points 10 = .ok (.aload_n 0, 1) := by decide +kernel
theorem dX10_points_11 : decode cX10_points 11 = .ok (.dup, 1) := by decide +kernel
theorem dX10_points_12 : decode cX10_points 12 = .ok (.getfield 95, 3) := by decide +kernel
theorem dX10_points_15 : decode cX10_points 15 = .ok (.aload_n 0, 1) := by decide +kernel
theorem dX10_points_16 : decode cX10_points 16 = .ok (.getfield 7, 3) := by decide +kernel
theorem dX10_points_19 : decode cX10_points 19 = .ok (.iload_n 1, 1) := by decide +kernel
theorem dX10_points_20 : decode cX10_points 20 = .ok (.iaload, 1) := by decide +kernel
theorem dX10_points_21 : decode cX10_points 21 = .ok (.ifCond .ne 7, 3) := by decide +kernel
theorem dX10_points_24 : decode cX10_points 24 = .ok (.lconst 1, 1) := by decide +kernel
theorem dX10_points_25 : decode cX10_points 25 = .ok (.goto 22, 3) := by decide +kernel
theorem dX10_points_28 : decode cX10_points 28 = .ok (.aload_n 0, 1) := by decide +kernel
theorem dX10_points_29 : decode cX10_points 29 = .ok (.getfield 7, 3) := by decide +kernel
theorem dX10_points_32 : decode cX10_points 32 = .ok (.iload_n 1, 1) := by decide +kernel
theorem dX10_points_33 : decode cX10_points 33 = .ok (.iaload, 1) := by decide +kernel
theorem dX10_points_34 : decode cX10_points 34 = .ok (.iconst 1, 1) := by decide +kernel
theorem dX10_points_35 : decode cX10_points 35 = .ok (.if_icmp .ne 9, 3) := by decide +kernel
theorem dX10_points_38 : decode cX10_points 38 = .ok (.ldc2_w 99, 3) := by decide +kernel
theorem dX10_points_41 : decode cX10_points 41 = .ok (.goto 6, 3) := by decide +kernel
theorem dX10_points_44 : decode cX10_points 44 = .ok (.ldc2_w 101, 3) := by decide +kernel
theorem dX10_points_47 : decode cX10_points 47 = .ok (.ladd, 1) := by decide +kernel
theorem dX10_points_48 : decode cX10_points 48 = .ok (.putfield 95, 3) := by decide +kernel
theorem dX10_points_51 : decode cX10_points 51 = .ok (.aload_n 0, 1) := by decide +kernel
theorem dX10_points_52 : decode cX10_points 52 = .ok (.iload_n 1, 1) := by decide +kernel
theorem dX10_points_53 : decode cX10_points 53 = .ok (.invokevirtual 103, 3) := by decide +kernel
theorem dX10_points_56 : decode cX10_points 56 = .ok (.ireturn, 1) := by decide +kernel
set_option maxRecDepth 20000 in
theorem ggX10_law_X10_in : GoodIn wsX10_law wsX10_in := goodIn_r _ [7] (by decide +kernel) (by decide +kernel)
set_option maxRecDepth 20000 in
theorem gX10_law_X10_in : GoodIn wsX10_law (va_wsS RX10 87 yX10_in wsX10_in) := goodIn_app (goodIn_of _ (by decide +kernel)) ggX10_law_X10_in
theorem dX10_law_0 : decode cX10_law 0 = .ok (.iload_n 1, 1) := by decide +kernel
theorem dX10_law_1 : decode cX10_law 1 = .ok (.iconst 0, 1) := by decide +kernel
theorem dX10_law_2 : decode cX10_law 2 = .ok (.bipush 30, 2) := by decide +kernel
theorem dX10_law_4 : decode cX10_law 4 = .ok (.invokestatic 87, 3) := by decide +kernel
theorem dX10_law_7 : decode cX10_law 7 = .ok (.ifCond .eq 83, 3) := by decide +kernel
theorem dX10_law_10 : decode cX10_law 10 = .ok (.iload_n 2, 1) := by decide +kernel
theorem dX10_law_11 : decode cX10_law 11 = .ok (.iconst 0, 1) := by decide +kernel
theorem dX10_law_12 : decode cX10_law 12 = .ok (.bipush 90, 2) := by decide +kernel
theorem dX10_law_14 : decode cX10_law 14 = .ok (.invokestatic 87, 3) := by decide +kernel
theorem dX10_law_17 : decode cX10_law 17 = .ok (.ifCond .eq 73, 3) := by decide +kernel
theorem dX10_law_20 : decode cX10_law 20 = .ok (.iload_n 3, 1) := by decide +kernel
theorem dX10_law_21 : decode cX10_law 21 = .ok (.iconst 0, 1) := by decide +kernel
theorem dX10_law_22 : decode cX10_law 22 = .ok (.bipush 90, 2) := by decide +kernel
theorem dX10_law_24 : decode cX10_law 24 = .ok (.invokestatic 87, 3) := by decide +kernel
theorem dX10_law_27 : decode cX10_law 27 = .ok (.ifCond .eq 63, 3) := by decide +kernel
theorem dX10_law_30 : decode cX10_law 30 = .ok (.iload 4, 2) := by decide +kernel
theorem dX10_law_32 : decode cX10_law 32 = .ok (.iconst 0, 1) := by decide +kernel
theorem dX10_law_33 : decode cX10_law 33 = .ok (.bipush 90, 2) := by decide +kernel
theorem dX10_law_35 : decode cX10_law 35 = .ok (.invokestatic 87, 3) := by decide +kernel
theorem dX10_law_38 : decode cX10_law 38 = .ok (.ifCond .eq 52, 3) := by decide +kernel
theorem dX10_law_41 : decode cX10_law 41 = .ok (.iload 5, 2) := by decide +kernel
theorem dX10_law_43 : decode cX10_law 43 = .ok (.iconst 1, 1) := by decide +kernel
theorem dX10_law_44 : decode cX10_law 44 = .ok (.bipush 9, 2) := by decide +kernel
theorem dX10_law_46 : decode cX10_law 46 = .ok (.invokestatic 87, 3) := by decide +kernel
theorem dX10_law_49 : decode cX10_law 49 = .ok (.ifCond .eq 41, 3) := by decide +kernel
theorem dX10_law_52 : decode cX10_law 52 = .ok (.iload 6, 2) := by decide +kernel
theorem dX10_law_54 : decode cX10_law 54 = .ok (.iconst 0, 1) := by decide +kernel
theorem dX10_law_55 : decode cX10_law 55 = .ok (.bipush 20, 2) := by decide +kernel
theorem dX10_law_57 : decode cX10_law 57 = .ok (.invokestatic 87, 3) := by decide +kernel
theorem dX10_law_60 : decode cX10_law 60 = .ok (.ifCond .eq 30, 3) := by decide +kernel
theorem dX10_law_63 : decode cX10_law 63 = .ok (.iload 7, 2) := by decide +kernel
theorem dX10_law_65 : decode cX10_law 65 = .ok (.iconst 1, 1) := by decide +kernel
theorem dX10_law_66 : decode cX10_law 66 = .ok (.sipush 500, 3) := by decide +kernel
theorem dX10_law_69 : decode cX10_law 69 = .ok (.invokestatic 87, 3) := by decide +kernel
theorem dX10_law_72 : decode cX10_law 72 = .ok (.ifCond .eq 18, 3) := by decide +kernel
theorem dX10_law_75 : decode cX10_law 75 = .ok (.iload 8, 2) := by decide +kernel
theorem dX10_law_77 : decode cX10_law 77 = .ok (.iconst 0, 1) := by decide +kernel
theorem dX10_law_78 : decode cX10_law 78 = .ok (.bipush 60, 2) := by decide +kernel
theorem dX10_law_80 : decode cX10_law 80 = .ok (.invokestatic 87, 3) := by decide +kernel
theorem dX10_law_83 : decode cX10_law 83 = .ok (.ifCond .eq 7, 3) := by decide +kernel
theorem dX10_law_86 : decode cX10_law 86 = .ok (.iconst 1, 1) := by decide +kernel
theorem dX10_law_87 : decode cX10_law 87 = .ok (.goto 4, 3) := by decide +kernel
theorem dX10_law_90 : decode cX10_law 90 = .ok (.iconst 0, 1) := by decide +kernel
theorem dX10_law_91 : decode cX10_law 91 = .ok (.istore 9, 2) := by decide +kernel
theorem dX10_law_93 : decode cX10_law 93 = .ok (.iload 9, 2) := by decide +kernel
theorem dX10_law_95 : decode cX10_law 95 = .ok (.ifCond .ne 5, 3) := by decide +kernel
theorem dX10_law_98 : decode cX10_law 98 = .ok (.iconst (-1), 1) := by decide +kernel
theorem dX10_law_99 : decode cX10_law 99 = .ok (.ireturn, 1) := by decide +kernel
theorem dX10_law_100 : decode cX10_law 100 = .ok (.bipush 10, 2) := by decide +kernel
theorem dX10_law_102 : decode cX10_law 102 = .ok (.iload_n 1, 1) := by decide +kernel
theorem dX10_law_103 : decode cX10_law 103 = .ok (.imul, 1) := by decide +kernel
theorem dX10_law_104 : decode cX10_law 104 = .ok (.aload_n 0, 1) := by decide +kernel
theorem dX10_law_105 : decode cX10_law 105 = .ok (.getfield 107, 3) := by decide +kernel
theorem dX10_law_108 : decode cX10_law 108 = .ok (.if_icmp .gt 6, 3) := by decide +kernel
theorem dX10_law_111 : decode cX10_law 111 = .ok (.bipush (-2), 2) := by decide +kernel
theorem dX10_law_113 : decode cX10_law 113 = .ok (.ireturn, 1) := by decide +kernel
theorem dX10_law_114 : decode cX10_law 114 = .ok (.bipush 7, 2) := by decide +kernel
theorem dX10_law_116 : decode cX10_law 116 = .ok (.iload_n 1, 1) := by decide +kernel
theorem dX10_law_117 : decode cX10_law 117 = .ok (.imul, 1) := by decide +kernel
theorem dX10_law_118 : decode cX10_law 118 = .ok (.istore 10, 2) := by decide +kernel
theorem dX10_law_120 : decode cX10_law 120 = .ok (.aload_n 0, 1) := by decide +kernel
theorem dX10_law_121 : decode cX10_law 121 = .ok (.getfield 25, 3) := by decide +kernel
theorem dX10_law_124 : decode cX10_law 124 = .ok (.iload 10, 2) := by decide +kernel
theorem dX10_law_126 : decode cX10_law 126 = .ok (.iload_n 2, 1) := by decide +kernel
theorem dX10_law_127 : decode cX10_law 127 = .ok (.iastore, 1) := by decide +kernel
theorem dX10_law_128 : decode cX10_law 128 = .ok (.aload_n 0, 1) := by decide +kernel
theorem dX10_law_129 : decode cX10_law 129 = .ok (.getfield 25, 3) := by decide +kernel
theorem dX10_law_132 : decode cX10_law 132 = .ok (.iload 10, 2) := by decide +kernel
theorem dX10_law_134 : decode cX10_law 134 = .ok (.iconst 1, 1) := by decide +kernel
theorem dX10_law_135 : decode cX10_law 135 = .ok (.iadd, 1) := by decide +kernel
theorem dX10_law_136 : decode cX10_law 136 = .ok (.iload_n 3, 1) := by decide +kernel
theorem dX10_law_137 : decode cX10_law 137 = .ok (.iastore, 1) := by decide +kernel
theorem dX10_law_138 : decode cX10_law 138 = .ok (.aload_n 0, 1) := by decide +kernel
theorem dX10_law_139 : decode cX10_law 139 = .ok (.getfield 25, 3) := by decide +kernel
theorem dX10_law_142 : decode cX10_law 142 = .ok (.iload 10, 2) := by decide +kernel
theorem dX10_law_144 : decode cX10_law 144 = .ok (.iconst 2, 1) := by decide +kernel
theorem dX10_law_145 : decode cX10_law 145 = .ok (.iadd, 1) := by decide +kernel
theorem dX10_law_146 : decode cX10_law 146 = .ok (.iload 4, 2) := by decide +kernel
theorem dX10_law_148 : decode cX10_law 148 = .ok (.iastore, 1) := by decide +kernel
theorem dX10_law_149 : decode cX10_law 149 = .ok (.aload_n 0, 1) := by decide +kernel
theorem dX10_law_150 : decode cX10_law 150 = .ok (.getfield 25, 3) := by decide +kernel
theorem dX10_law_153 : decode cX10_law 153 = .ok (.iload 10, 2) := by decide +kernel
theorem dX10_law_155 : decode cX10_law 155 = .ok (.iconst 3, 1) := by decide +kernel
theorem dX10_law_156 : decode cX10_law 156 = .ok (.iadd, 1) := by decide +kernel
theorem dX10_law_157 : decode cX10_law 157 = .ok (.iload 5, 2) := by decide +kernel
theorem dX10_law_159 : decode cX10_law 159 = .ok (.iastore, 1) := by decide +kernel
theorem dX10_law_160 : decode cX10_law 160 = .ok (.aload_n 0, 1) := by decide +kernel
theorem dX10_law_161 : decode cX10_law 161 = .ok (.getfield 25, 3) := by decide +kernel
theorem dX10_law_164 : decode cX10_law 164 = .ok (.iload 10, 2) := by decide +kernel
theorem dX10_law_166 : decode cX10_law 166 = .ok (.iconst 4, 1) := by decide +kernel
theorem dX10_law_167 : decode cX10_law 167 = .ok (.iadd, 1) := by decide +kernel
theorem dX10_law_168 : decode cX10_law 168 = .ok (.iload 6, 2) := by decide +kernel
theorem dX10_law_170 : decode cX10_law 170 = .ok (.iastore, 1) := by decide +kernel
theorem dX10_law_171 : decode cX10_law 171 = .ok (.aload_n 0, 1) := by decide +kernel
theorem dX10_law_172 : decode cX10_law 172 = .ok (.getfield 25, 3) := by decide +kernel
theorem dX10_law_175 : decode cX10_law 175 = .ok (.iload 10, 2) := by decide +kernel
theorem dX10_law_177 : decode cX10_law 177 = .ok (.iconst 5, 1) := by decide +kernel
theorem dX10_law_178 : decode cX10_law 178 = .ok (.iadd, 1) := by decide +kernel
theorem dX10_law_179 : decode cX10_law 179 = .ok (.iload 7, 2) := by decide +kernel
theorem dX10_law_181 : decode cX10_law 181 = .ok (.iastore, 1) := by decide +kernel
theorem dX10_law_182 : decode cX10_law 182 = .ok (.aload_n 0, 1) := by decide +kernel
theorem dX10_law_183 : decode cX10_law 183 = .ok (.getfield 25, 3) := by decide +kernel
theorem dX10_law_186 : decode cX10_law 186 = .ok (.iload 10, 2) := by decide +kernel
theorem dX10_law_188 : decode cX10_law 188 = .ok (.bipush 6, 2) := by decide +kernel
theorem dX10_law_190 : decode cX10_law 190 = .ok (.iadd, 1) := by decide +kernel
theorem dX10_law_191 : decode cX10_law 191 = .ok (.iload 8, 2) := by decide +kernel
theorem dX10_law_193 : decode cX10_law 193 = .ok (.iastore, 1) := by decide +kernel
theorem dX10_law_194 : decode cX10_law 194 = .ok (.aload_n 0, 1) := by decide +kernel
theorem dX10_law_195 : decode cX10_law 195 = .ok (.getfield 28, 3) := by decide +kernel
theorem dX10_law_198 : decode cX10_law 198 = .ok (.iload_n 1, 1) := by decide +kernel
theorem dX10_law_199 : decode cX10_law 199 = .ok (.iconst 1, 1) := by decide +kernel
theorem dX10_law_200 : decode cX10_law 200 = .ok (.bastore, 1) := by decide +kernel
theorem dX10_law_201 : decode cX10_law 201 = .ok (.iconst 1, 1) := by decide +kernel
theorem dX10_law_202 : decode cX10_law 202 = .ok (.ireturn, 1) := by decide +kernel
theorem dX10_yearOf_0 : decode cX10_yearOf 0 = .ok (.iload_n 1, 1) := by decide +kernel
theorem dX10_yearOf_1 : decode cX10_yearOf 1 = .ok (.bipush 10, 2) := by decide +kernel
theorem dX10_yearOf_3 : decode cX10_yearOf 3 = .ok (.idiv, 1) := by decide +kernel
theorem dX10_yearOf_4 : decode cX10_yearOf 4 = .ok (.bipush 30, 2) := by decide +kernel
theorem dX10_yearOf_6 : decode cX10_yearOf 6 = .ok (.if_icmp .le 8, 3) := by decide +kernel
theorem dX10_yearOf_9 : decode cX10_yearOf 9 = .ok (.bipush 30, 2) := by decide +kernel
theorem dX10_yearOf_11 : decode cX10_yearOf 11 = .ok (.goto 7, 3) := by decide +kernel
theorem dX10_yearOf_14 : decode cX10_yearOf 14 = .ok (.iload_n 1, 1) := by decide +kernel
theorem dX10_yearOf_15 : decode cX10_yearOf 15 = .ok (.bipush 10, 2) := by decide +kernel
theorem dX10_yearOf_17 : decode cX10_yearOf 17 = .ok (.idiv, 1) := by decide +kernel
theorem dX10_yearOf_18 : decode cX10_yearOf 18 = .ok (.istore_n 2, 1) := by decide +kernel
theorem dX10_yearOf_19 : decode cX10_yearOf 19 = .ok (.iload_n 2, 1) := by decide +kernel
theorem dX10_yearOf_20 : decode cX10_yearOf 20 = .ok (.ifCond .lt 18, 3) := by decide +kernel
theorem dX10_yearOf_23 : decode cX10_yearOf 23 = .ok (.aload_n 0, 1) := by decide +kernel
theorem dX10_yearOf_24 : decode cX10_yearOf 24 = .ok (.getfield 28, 3) := by decide +kernel
theorem dX10_yearOf_27 : decode cX10_yearOf 27 = .ok (.iload_n 2, 1) := by decide +kernel
theorem dX10_yearOf_28 : decode cX10_yearOf 28 = .ok (.baload, 1) := by decide +kernel
theorem dX10_yearOf_29 : decode cX10_yearOf 29 = .ok (.ifCond .ne 9, 3) := by decide +kernel
theorem dX10_yearOf_32 : decode cX10_yearOf 32 = .ok (.iinc 2 (-1), 3) := by decide +kernel
theorem dX10_yearOf_35 : decode cX10_yearOf 35 = .ok (.goto (-16), 3) := by decide +kernel
theorem dX10_yearOf_38 : decode cX10_yearOf 38 = .ok (.iload_n 2, 1) := by decide +kernel
theorem dX10_yearOf_39 : decode cX10_yearOf 39 = .ok (.ifCond .ge 8, 3) := by decide +kernel
theorem dX10_yearOf_42 : decode cX10_yearOf 42 = .ok (.bipush 31, 2) := by decide +kernel
theorem dX10_yearOf_44 : decode cX10_yearOf 44 = .ok (.goto 4, 3) := by decide +kernel
theorem dX10_yearOf_47 : decode cX10_yearOf 47 = .ok (.iload_n 2, 1) := by decide +kernel
theorem dX10_yearOf_48 : decode cX10_yearOf 48 = .ok (.ireturn, 1) := by decide +kernel
set_option maxRecDepth 20000 in
theorem ggX10_lawOf_X10_yearOf : GoodIn wsX10_lawOf wsX10_yearOf := goodIn_r _ [6, 7, 8, 9, 10, 11, 12, 13, 14, 15, 16, 17, 18, 19, 20, 21, 22, 23, 24, 25, 26, 27, 28, 29, 30, 31, 32, 33, 34, 35, 36, 37] (by decide +kernel) (by decide +kernel)
set_option maxRecDepth 20000 in
theorem gX10_lawOf_X10_yearOf : GoodIn wsX10_lawOf (wsV RX10 110 RX10 yX10_yearOf wsX10_yearOf) := goodIn_app (goodIn_of _ (by decide +kernel)) ggX10_lawOf_X10_yearOf
theorem dX10_lawOf_0 : decode cX10_lawOf 0 = .ok (.aload_n 0, 1) := by decide +kernel
theorem dX10_lawOf_1 : decode cX10_lawOf 1 = .ok (.getfield 25, 3) := by decide +kernel
theorem dX10_lawOf_4 : decode cX10_lawOf 4 = .ok (.bipush 7, 2) := by decide +kernel
theorem dX10_lawOf_6 : decode cX10_lawOf 6 = .ok (.aload_n 0, 1) := by decide +kernel
theorem dX10_lawOf_7 : decode cX10_lawOf 7 = .ok (.iload_n 1, 1) := by decide +kernel
theorem dX10_lawOf_8 : decode cX10_lawOf 8 = .ok (.invokevirtual 110, 3) := by decide +kernel
theorem dX10_lawOf_11 : decode cX10_lawOf 11 = .ok (.imul, 1) := by decide +kernel
theorem dX10_lawOf_12 : decode cX10_lawOf 12 = .ok (.iload_n 2, 1) := by decide +kernel
theorem dX10_lawOf_13 : decode cX10_lawOf 13 = .ok (.iadd, 1) := by decide +kernel
theorem dX10_lawOf_14 : decode cX10_lawOf 14 = .ok (.iaload, 1) := by decide +kernel
theorem dX10_lawOf_15 : decode cX10_lawOf 15 = .ok (.ireturn, 1) := by decide +kernel
set_option maxRecDepth 20000 in
theorem ggX10_force_X10_in : GoodIn wsX10_force wsX10_in := goodIn_r _ [4] (by decide +kernel) (by decide +kernel)
set_option maxRecDepth 20000 in
theorem gX10_force_X10_in : GoodIn wsX10_force (va_wsS RX10 87 yX10_in wsX10_in) := goodIn_app (goodIn_of _ (by decide +kernel)) ggX10_force_X10_in
set_option maxRecDepth 20000 in
theorem ggX10_force_X10_lawOf : GoodIn wsX10_force wsX10_lawOf := goodIn_r _ [8, 9, 10, 11, 12, 3, 13, 14, 15, 16, 17, 18, 19, 20, 21, 22, 23, 24, 25, 26, 27, 28, 29, 30, 31, 32, 33, 34, 35, 36, 37, 38, 39, 40, 41, 42, 43, 44] (by decide +kernel) (by decide +kernel)
set_option maxRecDepth 20000 in
theorem gX10_force_X10_lawOf : GoodIn wsX10_force (wsV RX10 113 RX10 yX10_lawOf wsX10_lawOf) := goodIn_app (goodIn_of _ (by decide +kernel)) ggX10_force_X10_lawOf
set_option maxRecDepth 20000 in
theorem ggX10_force_X10_yearOf : GoodIn wsX10_force wsX10_yearOf := goodIn_r _ [13, 14, 15, 16, 17, 18, 19, 20, 21, 22, 23, 24, 25, 26, 27, 28, 29, 30, 31, 32, 33, 34, 35, 36, 37, 38, 39, 40, 41, 42, 43, 44] (by decide +kernel) (by decide +kernel)
set_option maxRecDepth 20000 in
theorem gX10_force_X10_yearOf : GoodIn wsX10_force (wsV RX10 110 RX10 yX10_yearOf wsX10_yearOf) := goodIn_app (goodIn_of _ (by decide +kernel)) ggX10_force_X10_yearOf
theorem dX10_force_0 : decode cX10_force 0 = .ok (.iload_n 1, 1) := by decide +kernel
theorem dX10_force_1 : decode cX10_force 1 = .ok (.iconst 0, 1) := by decide +kernel
theorem dX10_force_2 : decode cX10_force 2 = .ok (.sipush 400, 3) := by decide +kernel
theorem dX10_force_5 : decode cX10_force 5 = .ok (.invokestatic 87, 3) := by decide +kernel
theorem dX10_force_8 : decode cX10_force 8 = .ok (.ifCond .eq 13, 3) := by decide +kernel
theorem dX10_force_11 : decode cX10_force 11 = .ok (.iload_n 2, 1) := by decide +kernel
theorem dX10_force_12 : decode cX10_force 12 = .ok (.iconst 0, 1) := by decide +kernel
theorem dX10_force_13 : decode cX10_force 13 = .ok (.bipush 7, 2) := by decide +kernel
theorem dX10_force_15 : decode cX10_force 15 = .ok (.invokestatic 87, 3) := by decide +kernel
theorem dX10_force_18 : decode cX10_force 18 = .ok (.ifCond .ne 5, 3) := by decide +kernel
theorem dX10_force_21 : decode cX10_force 21 = .ok (.iconst (-1), 1) := by decide +kernel
theorem dX10_force_22 : decode cX10_force 22 = .ok (.ireturn, 1) := by decide +kernel
theorem dX10_force_23 : decode cX10_force 23 = .ok (.iload_n 2, 1) := by decide +kernel
theorem dX10_force_24 : decode cX10_force 24 = .ok (.bipush 7, 2) := by decide +kernel
theorem dX10_force_26 : decode cX10_force 26 = .ok (.if_icmp .ge 12, 3) := by decide +kernel
theorem dX10_force_29 : decode cX10_force 29 = .ok (.aload_n 0, 1) := by decide +kernel
theorem dX10_force_30 : decode cX10_force 30 = .ok (.iload_n 1, 1) := by decide +kernel
theorem dX10_force_31 : decode cX10_force 31 = .ok (.iload_n 2, 1) := by decide +kernel
theorem dX10_force_32 : decode cX10_force 32 = .ok (.invokevirtual 113, 3) := by decide +kernel
theorem dX10_force_35 : decode cX10_force 35 = .ok (.goto 23, 3) := by decide +kernel
theorem dX10_force_38 : decode cX10_force 38 = .ok (.aload_n 0, 1) := by decide +kernel
theorem dX10_force_39 : decode cX10_force 39 = .ok (.iload_n 1, 1) := by decide +kernel
theorem dX10_force_40 : decode cX10_force 40 = .ok (.invokevirtual 110, 3) := by decide +kernel
theorem dX10_force_43 : decode cX10_force 43 = .ok (.bipush 31, 2) := by decide +kernel
theorem dX10_force_45 : decode cX10_force 45 = .ok (.if_icmp .ne 8, 3) := by decide +kernel
theorem dX10_force_48 : decode cX10_force 48 = .ok (.bipush (-9), 2) := by decide +kernel
theorem dX10_force_50 : decode cX10_force 50 = .ok (.goto 8, 3) := by decide +kernel
theorem dX10_force_53 : decode cX10_force 53 = .ok (.aload_n 0, 1) := by decide +kernel
theorem dX10_force_54 : decode cX10_force 54 = .ok (.iload_n 1, 1) := by decide +kernel
theorem dX10_force_55 : decode cX10_force 55 = .ok (.invokevirtual 110, 3) := by decide +kernel
theorem dX10_force_58 : decode cX10_force 58 = .ok (.ireturn, 1) := by decide +kernel
set_option maxRecDepth 20000 in
theorem ggX10_like_X10_in : GoodIn wsX10_like wsX10_in := goodIn_r _ [11] (by decide +kernel) (by decide +kernel)
set_option maxRecDepth 20000 in
theorem gX10_like_X10_in : GoodIn wsX10_like (va_wsS RX10 87 yX10_in wsX10_in) := goodIn_app (goodIn_of _ (by decide +kernel)) ggX10_like_X10_in
theorem dX10_like_0 : decode cX10_like 0 = .ok (.iload_n 1, 1) := by decide +kernel
theorem dX10_like_1 : decode cX10_like 1 = .ok (.iconst 0, 1) := by decide +kernel
theorem dX10_like_2 : decode cX10_like 2 = .ok (.iconst 2, 1) := by decide +kernel
theorem dX10_like_3 : decode cX10_like 3 = .ok (.invokestatic 87, 3) := by decide +kernel
theorem dX10_like_6 : decode cX10_like 6 = .ok (.ifCond .eq 25, 3) := by decide +kernel
theorem dX10_like_9 : decode cX10_like 9 = .ok (.iload_n 2, 1) := by decide +kernel
theorem dX10_like_10 : decode cX10_like 10 = .ok (.iconst 0, 1) := by decide +kernel
theorem dX10_like_11 : decode cX10_like 11 = .ok (.sipush 200, 3) := by decide +kernel
theorem dX10_like_14 : decode cX10_like 14 = .ok (.invokestatic 87, 3) := by decide +kernel
theorem dX10_like_17 : decode cX10_like 17 = .ok (.ifCond .eq 14, 3) := by decide +kernel
theorem dX10_like_20 : decode cX10_like 20 = .ok (.iload_n 3, 1) := by decide +kernel
theorem dX10_like_21 : decode cX10_like 21 = .ok (.iconst 1, 1) := by decide +kernel
theorem dX10_like_22 : decode cX10_like 22 = .ok (.sipush 5000, 3) := by decide +kernel
theorem dX10_like_25 : decode cX10_like 25 = .ok (.invokestatic 87, 3) := by decide +kernel
theorem dX10_like_28 : decode cX10_like 28 = .ok (.ifCond .ne 5, 3) := by decide +kernel
theorem dX10_like_31 : decode cX10_like 31 = .ok (.iconst (-1), 1) := by decide +kernel
theorem dX10_like_32 : decode cX10_like 32 = .ok (.ireturn, 1) := by decide +kernel
theorem dX10_like_33 : decode cX10_like 33 = .ok (.aload_n 0, 1) := by decide +kernel
theorem dX10_like_34 : decode cX10_like 34 = .ok (.getfield 117, 3) := by decide +kernel
theorem dX10_like_37 : decode cX10_like 37 = .ok (.bipush 12, 2) := by decide +kernel
theorem dX10_like_39 : decode cX10_like 39 = .ok (.if_icmp .ne 6, 3) := by decide +kernel
theorem dX10_like_42 : decode cX10_like 42 = .ok (.bipush (-3), 2) := by decide +kernel
theorem dX10_like_44 : decode cX10_like 44 = .ok (.ireturn, 1) := by decide +kernel
theorem dX10_like_45 : decode cX10_like 45 = .ok (.aload_n 0, 1) := by decide +kernel
theorem dX10_like_46 : decode cX10_like 46 = .ok (.getfield 32, 3) := by decide +kernel
theorem dX10_like_49 : decode cX10_like 49 = .ok (.aload_n 0, 1) := by decide +kernel
theorem dX10_like_50 : decode cX10_like 50 = .ok (.getfield 117, 3) := by decide +kernel
theorem dX10_like_53 : decode cX10_like 53 = .ok (.iload_n 1, 1) := by decide +kernel
theorem dX10_like_54 : decode cX10_like 54 = .ok (.iastore, 1) := by decide +kernel
theorem dX10_like_55 : decode cX10_like 55 = .ok (.aload_n 0, 1) := by decide +kernel
theorem dX10_like_56 : decode cX10_like 56 = .ok (.getfield 35, 3) := by decide +kernel
theorem dX10_like_59 : decode cX10_like 59 = .ok (.aload_n 0, 1) := by decide +kernel
theorem dX10_like_60 : decode cX10_like 60 = .ok (.getfield 117, 3) := by decide +kernel
theorem dX10_like_63 : decode cX10_like 63 = .ok (.iload_n 2, 1) := by decide +kernel
theorem dX10_like_64 : decode cX10_like 64 = .ok (.iastore, 1) := by decide +kernel
theorem dX10_like_65 : decode cX10_like 65 = .ok (.aload_n 0, 1) := by decide +kernel
theorem dX10_like_66 : decode cX10_like 66 = .ok (.getfield 38, 3) := by decide +kernel
theorem dX10_like_69 : decode cX10_like 69 = .ok (.aload_n 0, 1) := by decide +kernel
theorem dX10_like_70 : decode cX10_like 70 = .ok (.getfield 117, 3) := by decide +kernel
theorem dX10_like_73 : decode cX10_like 73 = .ok (.iload_n 3, 1) := by decide +kernel
theorem dX10_like_74 : decode cX10_like 74 = .ok (.iastore, 1) := by decide +kernel
theorem dX10_like_75 : decode cX10_like 75 = .ok (.aload_n 0, 1) := by decide +kernel
theorem dX10_like_76 : decode cX10_like 76 = .ok (.getfield 41, 3) := by decide +kernel
theorem dX10_like_79 : decode cX10_like 79 = .ok (.aload_n 0, 1) := by decide +kernel
theorem dX10_like_80 : decode cX10_like 80 = .ok (.getfield 117, 3) := by decide +kernel
theorem dX10_like_83 : decode cX10_like 83 = .ok (.aload_n 0, 1) := by decide +kernel
theorem dX10_like_84 : decode cX10_like 84 = .ok (.getfield 107, 3) := by decide +kernel
theorem dX10_like_87 : decode cX10_like 87 = .ok (.iastore, 1) := by decide +kernel
theorem dX10_like_88 : decode cX10_like 88 = .ok (.aload_n 0, 1) := by decide +kernel
theorem dX10_like_89 : decode cX10_like 89 = .ok (.getfield 44, 3) := by decide +kernel
theorem dX10_like_92 : decode cX10_like 92 = .ok (.aload_n 0, 1) := by decide +kernel
theorem dX10_like_93 : decode cX10_like 93 = .ok (.getfield 117, 3) := by decide +kernel
theorem dX10_like_96 : decode cX10_like 96 = .ok (.iconst 0, 1) := by decide +kernel
theorem dX10_like_97 : decode cX10_like 97 = .ok (.bastore, 1) := by decide +kernel
theorem dX10_like_98 : decode cX10_like 98 = .ok (.aload_n 0, 1) := by decide +kernel
theorem dX10_like_99 : decode cX10_like 99 = .ok (.dup, 1) := by decide +kernel
theorem dX10_like_100 : decode cX10_like 100 = .ok (.getfield 117, 3) := by decide +kernel
theorem dX10_like_103 : decode cX10_like 103 = .ok (.iconst 1, 1) := by decide +kernel
theorem dX10_like_104 : decode cX10_like 104 = .ok (.iadd, 1) := by decide +kernel
theorem dX10_like_105 : decode cX10_like 105 = .ok (.putfield 117, 3) := by decide +kernel
theorem dX10_like_108 : decode cX10_like 108 = .ok (.aload_n 0, 1) := by decide +kernel
theorem dX10_like_109 : decode cX10_like 109 = .ok (.getfield 117, 3) := by decide +kernel
theorem dX10_like_112 : decode cX10_like 112 = .ok (.iconst 1, 1) := by decide +kernel
theorem dX10_like_113 : decode cX10_like 113 = .ok (.isub, 1) := by decide +kernel
theorem dX10_like_114 : decode cX10_like 114 = .ok (.ireturn, 1) := by decide +kernel
set_option maxRecDepth 20000 in
theorem ggX10_strike_X10_in : GoodIn wsX10_strike wsX10_in := goodIn_r _ [6] (by decide +kernel) (by decide +kernel)
set_option maxRecDepth 20000 in
theorem gX10_strike_X10_in : GoodIn wsX10_strike (va_wsS RX10 87 yX10_in wsX10_in) := goodIn_app (goodIn_of _ (by decide +kernel)) ggX10_strike_X10_in
theorem dX10_strike_0 : decode cX10_strike 0 = .ok (.iload_n 1, 1) := by decide +kernel
theorem dX10_strike_1 : decode cX10_strike 1 = .ok (.iconst 0, 1) := by decide +kernel
theorem dX10_strike_2 : decode cX10_strike 2 = .ok (.aload_n 0, 1) := by decide +kernel
theorem dX10_strike_3 : decode cX10_strike 3 = .ok (.getfield 117, 3) := by decide +kernel
theorem dX10_strike_6 : decode cX10_strike 6 = .ok (.iconst 1, 1) := by decide +kernel
theorem dX10_strike_7 : decode cX10_strike 7 = .ok (.isub, 1) := by decide +kernel
theorem dX10_strike_8 : decode cX10_strike 8 = .ok (.invokestatic 87, 3) := by decide +kernel
theorem dX10_strike_11 : decode cX10_strike 11 = .ok (.ifCond .ne 5, 3) := by decide +kernel
theorem dX10_strike_14 : decode cX10_strike 14 = .ok (.iconst (-1), 1) := by decide +kernel
theorem dX10_strike_15 : decode cX10_strike 15 = .ok (.ireturn, 1) := by decide +kernel
theorem dX10_strike_16 : decode cX10_strike 16 = .ok (.aload_n 0, 1) := by decide +kernel
theorem dX10_strike_17 : decode cX10_strike 17 = .ok (.getfield 44, 3) := by decide +kernel
theorem dX10_strike_20 : decode cX10_strike 20 = .ok (.iload_n 1, 1) := by decide +kernel
theorem dX10_strike_21 : decode cX10_strike 21 = .ok (.baload, 1) := by decide +kernel
theorem dX10_strike_22 : decode cX10_strike 22 = .ok (.ifCond .eq 6, 3) := by decide +kernel
theorem dX10_strike_25 : decode cX10_strike 25 = .ok (.bipush (-2), 2) := by decide +kernel
theorem dX10_strike_27 : decode cX10_strike 27 = .ok (.ireturn, 1) := by decide +kernel
theorem dX10_strike_28 : decode cX10_strike 28 = .ok (.aload_n 0, 1) := by decide +kernel
theorem dX10_strike_29 : decode cX10_strike 29 = .ok (.getfield 44, 3) := by decide +kernel
theorem dX10_strike_32 : decode cX10_strike 32 = .ok (.iload_n 1, 1) := by decide +kernel
theorem dX10_strike_33 : decode cX10_strike 33 = .ok (.iconst 1, 1) := by decide +kernel
theorem dX10_strike_34 : decode cX10_strike 34 = .ok (.bastore, 1) := by decide +kernel
theorem dX10_strike_35 : decode cX10_strike 35 = .ok (.iconst 1, 1) := by decide +kernel
theorem dX10_strike_36 : decode cX10_strike 36 = .ok (.ireturn, 1) := by decide +kernel
set_option maxRecDepth 20000 in
theorem ggX10_days_X10_in : GoodIn wsX10_days wsX10_in := goodIn_r _ [5] (by decide +kernel) (by decide +kernel)
set_option maxRecDepth 20000 in
theorem gX10_days_X10_in : GoodIn wsX10_days (va_wsS RX10 87 yX10_in wsX10_in) := goodIn_app (goodIn_of _ (by decide +kernel)) ggX10_days_X10_in
theorem dX10_days_0 : decode cX10_days 0 = .ok (.iload_n 1, 1) := by decide +kernel
theorem dX10_days_1 : decode cX10_days 1 = .ok (.iconst 1, 1) := by decide +kernel
theorem dX10_days_2 : decode cX10_days 2 = .ok (.bipush 30, 2) := by decide +kernel
theorem dX10_days_4 : decode cX10_days 4 = .ok (.invokestatic 87, 3) := by decide +kernel
theorem dX10_days_7 : decode cX10_days 7 = .ok (.ifCond .ne 5, 3) := by decide +kernel
theorem dX10_days_10 : decode cX10_days 10 = .ok (.iconst (-1), 1) := by decide +kernel
theorem dX10_days_11 : decode cX10_days 11 = .ok (.ireturn, 1) := by decide +kernel
theorem dX10_days_12 : decode cX10_days 12 = .ok (.aload_n 0, 1) := by decide +kernel
theorem dX10_days_13 : decode cX10_days 13 = .ok (.getfield 107, 3) := by decide +kernel
theorem dX10_days_16 : decode cX10_days 16 = .ok (.iload_n 1, 1) := by decide +kernel
theorem dX10_days_17 : decode cX10_days 17 = .ok (.iadd, 1) := by decide +kernel
theorem dX10_days_18 : decode cX10_days 18 = .ok (.sipush 300, 3) := by decide +kernel
theorem dX10_days_21 : decode cX10_days 21 = .ok (.if_icmp .le 6, 3) := by decide +kernel
theorem dX10_days_24 : decode cX10_days 24 = .ok (.bipush (-2), 2) := by decide +kernel
theorem dX10_days_26 : decode cX10_days 26 = .ok (.ireturn, 1) := by decide +kernel
theorem dX10_days_27 : decode cX10_days 27 = .ok (.aload_n 0, 1) := by decide +kernel
theorem dX10_days_28 : decode cX10_days 28 = .ok (.dup, 1) := by decide +kernel
theorem dX10_days_29 : decode cX10_days 29 = .ok (.getfield 107, 3) := by decide +kernel
theorem dX10_days_32 : decode cX10_days 32 = .ok (.iload_n 1, 1) := by decide +kernel
theorem dX10_days_33 : decode cX10_days 33 = .ok (.iadd, 1) := by decide +kernel
theorem dX10_days_34 : decode cX10_days 34 = .ok (.putfield 107, 3) := by decide +kernel
theorem dX10_days_37 : decode cX10_days 37 = .ok (.aload_n 0, 1) := by decide +kernel
theorem dX10_days_38 : decode cX10_days 38 = .ok (.getfield 107, 3) := by decide +kernel
theorem dX10_days_41 : decode cX10_days 41 = .ok (.ireturn, 1) := by decide +kernel
set_option maxRecDepth 20000 in
theorem ggX10_collect_X10_lawOf : GoodIn wsX10_collect wsX10_lawOf := goodIn_r _ [14, 15, 16, 17, 18, 13, 19, 20, 28, 29, 30, 31, 32, 33, 34, 35, 36, 37, 38, 39, 40, 41, 42, 43, 44, 45, 46, 47, 48, 49, 50, 51, 52, 53, 54, 55, 56, 57] (by decide +kernel) (by decide +kernel)
set_option maxRecDepth 20000 in
theorem gX10_collect_X10_lawOf : GoodIn wsX10_collect (wsV RX10 113 RX10 yX10_lawOf wsX10_lawOf) := goodIn_app (goodIn_of _ (by decide +kernel)) ggX10_collect_X10_lawOf
set_option maxRecDepth 20000 in
theorem ggX10_collect_X10_pointsOf : GoodIn wsX10_collect wsX10_pointsOf := goodIn_r _ [24, 25, 26, 27, 28, 29, 30, 31, 32, 33, 34, 35, 36, 37, 38, 39, 40, 41, 42, 43, 44, 45, 46, 47, 48, 49, 50, 51, 52, 53, 54, 55, 56, 57] (by decide +kernel) (by decide +kernel)
set_option maxRecDepth 20000 in
theorem gX10_collect_X10_pointsOf : GoodIn wsX10_collect (wsV RX10 103 RX10 yX10_pointsOf wsX10_pointsOf) := goodIn_app (goodIn_of _ (by decide +kernel)) ggX10_collect_X10_pointsOf
theorem dX10_collect_0 : decode cX10_collect 0 = .ok (.aload_n 0, 1) := by decide +kernel
theorem dX10_collect_1 : decode cX10_collect 1 = .ok (.iconst 0, 1) := by decide +kernel
theorem dX10_collect_2 : decode cX10_collect 2 = .ok (.putfield 120, 3) := by decide +kernel
theorem dX10_collect_5 : decode cX10_collect 5 = .ok (.iconst 0, 1) := by decide +kernel
theorem dX10_collect_6 : decode cX10_collect 6 = .ok (.istore_n 3, 1) := by decide +kernel
theorem dX10_collect_7 : decode cX10_collect 7 = .ok (.iload_n 3, 1) := by decide +kernel
theorem dX10_collect_8 : decode cX10_collect 8 = .ok (.aload_n 0, 1) := by decide +kernel
theorem dX10_collect_9 : decode cX10_collect 9 = .ok (.getfield 117, 3) := by decide +kernel
theorem dX10_collect_12 : decode cX10_collect 12 = .ok (.if_icmp .ge 137, 3) := by decide +kernel
theorem dX10_collect_15 : decode cX10_collect 15 = .ok (.aload_n 0, 1) := by decide +kernel
theorem dX10_collect_16 : decode cX10_collect 16 = .ok (.getfield 32, 3) := by decide +kernel
theorem dX10_collect_19 : decode cX10_collect 19 = .ok (.iload_n 3, 1) := by decide +kernel
theorem dX10_collect_20 : decode cX10_collect 20 = .ok (.iaload, 1) := by decide +kernel
theorem dX10_collect_21 : decode cX10_collect 21 = .ok (.aload_n 0, 1) := by decide +kernel
theorem dX10_collect_22 : decode cX10_collect 22 = .ok (.getfield 13, 3) := by decide +kernel
theorem dX10_collect_25 : decode cX10_collect 25 = .ok (.iload_n 1, 1) := by decide +kernel
theorem dX10_collect_26 : decode cX10_collect 26 = .ok (.iaload, 1) := by decide +kernel
theorem dX10_collect_27 : decode cX10_collect 27 = .ok (.if_icmp .ne 116, 3) := by decide +kernel
theorem dX10_collect_30 : decode cX10_collect 30 = .ok (.aload_n 0, 1) := by decide +kernel
theorem dX10_collect_31 : decode cX10_collect 31 = .ok (.getfield 41, 3) := by decide +kernel
theorem dX10_collect_34 : decode cX10_collect 34 = .ok (.iload_n 3, 1) := by decide +kernel
theorem dX10_collect_35 : decode cX10_collect 35 = .ok (.iaload, 1) := by decide +kernel
theorem dX10_collect_36 : decode cX10_collect 36 = .ok (.iload_n 2, 1) := by decide +kernel
theorem dX10_collect_37 : decode cX10_collect 37 = .ok (.if_icmp .gt 106, 3) := by decide +kernel
theorem dX10_collect_40 : decode cX10_collect 40 = .ok (.aload_n 0, 1) := by decide +kernel
theorem dX10_collect_41 : decode cX10_collect 41 = .ok (.getfield 44, 3) := by decide +kernel
theorem dX10_collect_44 : decode cX10_collect 44 = .ok (.iload_n 3, 1) := by decide +kernel
theorem dX10_collect_45 : decode cX10_collect 45 = .ok (.baload, 1) := by decide +kernel
theorem dX10_collect_46 : decode cX10_collect 46 = .ok (.ifCond .ne 97, 3) := by decide +kernel
theorem dX10_collect_49 : decode cX10_collect 49 = .ok (.aload_n 0, 1) := by decide +kernel
theorem dX10_collect_50 : decode cX10_collect 50 = .ok (.getfield 38, 3) := by decide +kernel
theorem dX10_collect_53 : decode cX10_collect 53 = .ok (.iload_n 3, 1) := by decide +kernel
theorem dX10_collect_54 : decode cX10_collect 54 = .ok (.iaload, 1) := by decide +kernel
theorem dX10_collect_55 : decode cX10_collect 55 = .ok (.aload_n 0, 1) := by decide +kernel
theorem dX10_collect_56 : decode cX10_collect 56 = .ok (.iload_n 2, 1) := by decide +kernel
theorem dX10_collect_57 : decode cX10_collect 57 = .ok (.iconst 3, 1) := by decide +kernel
theorem dX10_collect_58 : decode cX10_collect 58 = .ok (.invokevirtual 113, 3) := by decide +kernel
theorem dX10_collect_61 : decode cX10_collect 61 = .ok (.aload_n 0, 1) := by decide +kernel
theorem dX10_collect_62 : decode cX10_collect 62 = .ok (.iload_n 1, 1) := by decide +kernel
theorem dX10_collect_63 : decode cX10_collect 63 = .ok (.invokevirtual 103, 3) := by decide +kernel
theorem dX10_collect_66 : decode cX10_collect 66 = .ok (.aload_n 0, 1) := by decide +kernel
theorem dX10_collect_67 : decode cX10_collect 67 = .ok (.getfield 35, 3) := by decide +kernel
theorem dX10_collect_70 : decode cX10_collect 70 = .ok (.iload_n 3, 1) := by decide +kernel
theorem dX10_collect_71 : decode cX10_collect 71 = .ok (.iaload, 1) := by decide +kernel
theorem dX10_collect_72 : decode cX10_collect 72 = .ok (.isub, 1) := by decide +kernel
theorem dX10_collect_73 : decode cX10_collect 73 = .ok (.imul, 1) := by decide +kernel
theorem dX10_collect_74 : decode cX10_collect 74 = .ok (.iadd, 1) := by decide +kernel
theorem dX10_collect_75 : decode cX10_collect 75 = .ok (.istore 4, 2) := by decide +kernel
theorem dX10_collect_77 : decode cX10_collect 77 = .ok (.aload_n 0, 1) := by decide +kernel
theorem dX10_collect_78 : decode cX10_collect 78 = .ok (.getfield 120, 3) := by decide +kernel
theorem dX10_collect_81 : decode cX10_collect 81 = .ok (.istore 5, 2) := by decide +kernel
theorem dX10_collect_83 : decode cX10_collect 83 = .ok (.iload 5, 2) := by decide +kernel
theorem dX10_collect_85 : decode cX10_collect 85 = .ok (.ifCond .le 39, 3) := by decide +kernel
theorem dX10_collect_88 : decode cX10_collect 88 = .ok (.aload_n 0, 1) := by decide +kernel
theorem dX10_collect_89 : decode cX10_collect 89 = .ok (.getfield 77, 3) := by decide +kernel
theorem dX10_collect_92 : decode cX10_collect 92 = .ok (.iload 5, 2) := by decide +kernel
theorem dX10_collect_94 : decode cX10_collect 94 = .ok (.iconst 1, 1) := by decide +kernel
theorem dX10_collect_95 : decode cX10_collect 95 = .ok (.isub, 1) := by decide +kernel
theorem dX10_collect_96 : decode cX10_collect 96 = .ok (.iaload, 1) := by decide +kernel
theorem dX10_collect_97 : decode cX10_collect 97 = .ok (.iload 4, 2) := by decide +kernel
theorem dX10_collect_99 : decode cX10_collect 99 = .ok (.if_icmp .le 25, 3) := by decide +kernel
theorem dX10_collect_102 : decode cX10_collect 102 = .ok (.aload_n 0, 1) := by decide +kernel
theorem dX10_collect_103 : decode cX10_collect 103 = .ok (.getfield 77, 3) := by decide +kernel
theorem dX10_collect_106 : decode cX10_collect 106 = .ok (.iload 5, 2) := by decide +kernel
theorem dX10_collect_108 : decode cX10_collect 108 = .ok (.aload_n 0, 1) := by decide +kernel
theorem dX10_collect_109 : decode cX10_collect 109 = .ok (.getfield 77, 3) := by decide +kernel
theorem dX10_collect_112 : decode cX10_collect 112 = .ok (.iload 5, 2) := by decide +kernel
theorem dX10_collect_114 : decode cX10_collect 114 = .ok (.iconst 1, 1) := by decide +kernel
theorem dX10_collect_115 : decode cX10_collect 115 = .ok (.isub, 1) := by decide +kernel
theorem dX10_collect_116 : decode cX10_collect 116 = .ok (.iaload, 1) := by decide +kernel
theorem dX10_collect_117 : decode cX10_collect 117 = .ok (.iastore, 1) := by decide +kernel
theorem dX10_collect_118 : decode cX10_collect 118 = .ok (.iinc 5 (-1), 3) := by decide +kernel
theorem dX10_collect_121 : decode cX10_collect 121 = .ok (.goto (-38), 3) := by decide +kernel
theorem dX10_collect_124 : decode cX10_collect 124 = .ok (.aload_n 0, 1) := by decide +kernel
theorem dX10_collect_125 : decode cX10_collect 125 = .ok (.getfield 77, 3) := by decide +kernel
theorem dX10_collect_128 : decode cX10_collect 128 = .ok (.iload 5, 2) := by decide +kernel
theorem dX10_collect_130 : decode cX10_collect 130 = .ok (.iload 4, 2) := by decide +kernel
theorem dX10_collect_132 : decode cX10_collect 132 = .ok (.iastore, 1) := by decide +kernel
theorem dX10_collect_133 : decode cX10_collect 133 = .ok (.aload_n 0, 1) := by decide +kernel
theorem dX10_collect_134 : decode cX10_collect 134 = .ok (.dup, 1) := by decide +kernel
theorem dX10_collect_135 : decode cX10_collect 135 = .ok (.getfield 120, 3) := by decide +kernel
theorem dX10_collect_138 : decode cX10_collect 138 = .ok (.iconst 1, 1) := by decide +kernel
theorem dX10_collect_139 : decode cX10_collect 139 = .ok (.iadd, 1) := by decide +kernel
theorem dX10_collect_140 : decode cX10_collect 140 = .ok (.putfield 120, 3) := by decide +kernel
theorem dX10_collect_143 : decode cX10_collect 143 = .ok (.iinc 3 1, 3) := by decide +kernel
theorem dX10_collect_146 : decode cX10_collect 146 = .ok (.goto (-139), 3) := by decide +kernel
theorem dX10_collect_149 : decode cX10_collect 149 = .ok (.return_, 1) := by decide +kernel
set_option maxRecDepth 20000 in
theorem ggX10_headOf_X10_collect : GoodIn wsX10_headOf wsX10_collect := goodIn_r _ [9, 1, 10, 11, 3, 12, 13, 14, 15, 2, 16, 17, 18, 8, 19, 20, 21, 22, 23, 24, 25, 26, 27, 28, 29, 30, 31, 32, 33, 34, 35, 36, 37, 38, 39, 40, 41, 42, 43, 44, 45, 46, 47, 48, 49, 50, 51, 52, 53, 54, 55, 56, 57, 58, 59, 60, 61, 62] (by decide +kernel) (by decide +kernel)
set_option maxRecDepth 20000 in
theorem gX10_headOf_X10_collect : GoodIn wsX10_headOf (wsV RX10 123 RX10 yX10_collect wsX10_collect) := goodIn_app (goodIn_of _ (by decide +kernel)) ggX10_headOf_X10_collect
set_option maxRecDepth 20000 in
theorem ggX10_headOf_X10_lawOf : GoodIn wsX10_headOf wsX10_lawOf := goodIn_r _ [19, 20, 21, 22, 23, 8, 24, 25, 33, 34, 35, 36, 37, 38, 39, 40, 41, 42, 43, 44, 45, 46, 47, 48, 49, 50, 51, 52, 53, 54, 55, 56, 57, 58, 59, 60, 61, 62] (by decide +kernel) (by decide +kernel)
set_option maxRecDepth 20000 in
theorem gX10_headOf_X10_lawOf : GoodIn wsX10_headOf (wsV RX10 113 RX10 yX10_lawOf wsX10_lawOf) := goodIn_app (goodIn_of _ (by decide +kernel)) ggX10_headOf_X10_lawOf
theorem dX10_headOf_0 : decode cX10_headOf 0 = .ok (.aload_n 0, 1) := by decide +kernel
theorem dX10_headOf_1 : decode cX10_headOf 1 = .ok (.iload_n 1, 1) := by decide +kernel
theorem dX10_headOf_2 : decode cX10_headOf 2 = .ok (.iload_n 2, 1) := by decide +kernel
theorem dX10_headOf_3 : decode cX10_headOf 3 = .ok (.invokevirtual 123, 3) := by decide +kernel
theorem dX10_headOf_6 : decode cX10_headOf 6 = .ok (.aload_n 0, 1) := by decide +kernel
theorem dX10_headOf_7 : decode cX10_headOf 7 = .ok (.getfield 120, 3) := by decide +kernel
theorem dX10_headOf_10 : decode cX10_headOf 10 = .ok (.ifCond .ne 7, 3) := by decide +kernel
theorem dX10_headOf_13 : decode cX10_headOf 13 = .ok (.iconst 0, 1) := by decide +kernel
theorem dX10_headOf_14 : decode cX10_headOf 14 = .ok (.goto 16, 3) := by decide +kernel
theorem dX10_headOf_17 : decode cX10_headOf 17 = .ok (.aload_n 0, 1) := by decide +kernel
theorem dX10_headOf_18 : decode cX10_headOf 18 = .ok (.getfield 77, 3) := by decide +kernel
theorem dX10_headOf_21 : decode cX10_headOf 21 = .ok (.aload_n 0, 1) := by decide +kernel
theorem dX10_headOf_22 : decode cX10_headOf 22 = .ok (.getfield 120, 3) := by decide +kernel
theorem dX10_headOf_25 : decode cX10_headOf 25 = .ok (.iconst 1, 1) := by decide +kernel
theorem dX10_headOf_26 : decode cX10_headOf 26 = .ok (.isub, 1) := by decide +kernel
theorem dX10_headOf_27 : decode cX10_headOf 27 = .ok (.iconst 2, 1) := by decide +kernel
theorem dX10_headOf_28 : decode cX10_headOf 28 = .ok (.idiv, 1) := by decide +kernel
theorem dX10_headOf_29 : decode cX10_headOf 29 = .ok (.iaload, 1) := by decide +kernel
theorem dX10_headOf_30 : decode cX10_headOf 30 = .ok (.istore 4, 2) := by decide +kernel
theorem dX10_headOf_32 : decode cX10_headOf 32 = .ok (.iload 4, 2) := by decide +kernel
theorem dX10_headOf_34 : decode cX10_headOf 34 = .ok (.ifCond .ge 7, 3) := by decide +kernel
theorem dX10_headOf_37 : decode cX10_headOf 37 = .ok (.iconst 0, 1) := by decide +kernel
theorem dX10_headOf_38 : decode cX10_headOf 38 = .ok (.goto 21, 3) := by decide +kernel
theorem dX10_headOf_41 : decode cX10_headOf 41 = .ok (.aload_n 0, 1) := by decide +kernel
theorem dX10_headOf_42 : decode cX10_headOf 42 = .ok (.iload_n 2, 1) := by decide +kernel
