theorem dX9_setting_0 : decode cX9_setting 0 = .ok (.aload_n 0, 1) := by decide +kernel
theorem dX9_setting_1 : decode cX9_setting 1 = .ok (.iconst 0, 1) := by decide +kernel
theorem dX9_setting_2 : decode cX9_setting 2 = .ok (.putfield 43, 3) := by decide +kernel
theorem dX9_setting_5 : decode cX9_setting 5 = .ok (.iload_n 1, 1) := by decide +kernel
theorem dX9_setting_6 : decode cX9_setting 6 = .ok (.i2l, 1) := by decide +kernel
theorem dX9_setting_7 : decode cX9_setting 7 = .ok (.lconst 0, 1) := by decide +kernel
theorem dX9_setting_8 : decode cX9_setting 8 = .ok (.ldc2_w 84, 3) := by decide +kernel
theorem dX9_setting_11 : decode cX9_setting 11 = .ok (.invokestatic 47, 3) := by decide +kernel
theorem dX9_setting_14 : decode cX9_setting 14 = .ok (.ifCond .eq 15, 3) := by decide +kernel
theorem dX9_setting_17 : decode cX9_setting 17 = .ok (.aload_n 0, 1) := by decide +kernel
theorem dX9_setting_18 : decode cX9_setting 18 = .ok (.getfield 7, 3) := by decide +kernel
theorem dX9_setting_21 : decode cX9_setting 21 = .ok (.iconst 0, 1) := by decide +kernel
theorem dX9_setting_22 : decode cX9_setting 22 = .ok (.iload_n 1, 1) := by decide +kernel
theorem dX9_setting_23 : decode cX9_setting 23 = .ok (.iadd, 1) := by decide +kernel
theorem dX9_setting_24 : decode cX9_setting 24 = .ok (.laload, 1) := by decide +kernel
theorem dX9_setting_25 : decode cX9_setting 25 = .ok (.l2i, 1) := by decide +kernel
theorem dX9_setting_26 : decode cX9_setting 26 = .ok (.goto 8, 3) := by decide +kernel
theorem dX9_setting_29 : decode cX9_setting 29 = .ok (.aload_n 0, 1) := by decide +kernel
theorem dX9_setting_30 : decode cX9_setting 30 = .ok (.iconst 1, 1) := by decide +kernel
theorem dX9_setting_31 : decode cX9_setting 31 = .ok (.invokevirtual 60, 3) := by decide +kernel
theorem dX9_setting_34 : decode cX9_setting 34 = .ok (.ireturn, 1) := by decide +kernel
set_option maxRecDepth 20000 in
theorem ggX9_total_X9_stored : GoodIn wsX9_total wsX9_stored := goodIn_r _ [8, 2, 21, 22, 23, 24, 25, 26, 27, 28, 29, 30, 31, 32, 33] (by decide +kernel) (by decide +kernel)
set_option maxRecDepth 20000 in
theorem gX9_total_X9_stored : GoodIn wsX9_total (wsV RX9 142 RX9 yX9_stored wsX9_stored) := goodIn_app (goodIn_of _ (by decide +kernel)) ggX9_total_X9_stored
set_option maxRecDepth 20000 in
theorem ggX9_total_X9_blocks : GoodIn wsX9_total wsX9_blocks := goodIn_r _ [12, 2, 21, 22, 23, 24, 25, 26, 27, 28, 29, 30, 31, 32, 33] (by decide +kernel) (by decide +kernel)
set_option maxRecDepth 20000 in
theorem gX9_total_X9_blocks : GoodIn wsX9_total (wsV RX9 233 RX9 yX9_blocks wsX9_blocks) := goodIn_app (goodIn_of _ (by decide +kernel)) ggX9_total_X9_blocks
set_option maxRecDepth 20000 in
theorem ggX9_total_X9_openMany : GoodIn wsX9_total wsX9_openMany := goodIn_r _ [16, 2, 21, 22, 23, 24, 25, 26, 27, 28, 29, 30, 31, 32, 33] (by decide +kernel) (by decide +kernel)
set_option maxRecDepth 20000 in
theorem gX9_total_X9_openMany : GoodIn wsX9_total (wsV RX9 159 RX9 yX9_openMany wsX9_openMany) := goodIn_app (goodIn_of _ (by decide +kernel)) ggX9_total_X9_openMany
set_option maxRecDepth 20000 in
theorem ggX9_total_X9_refuse : GoodIn wsX9_total wsX9_refuse := goodIn_r _ [20, 1, 21, 22, 23, 24, 25, 26, 27, 28, 29, 30, 31, 32, 33] (by decide +kernel) (by decide +kernel)
set_option maxRecDepth 20000 in
theorem gX9_total_X9_refuse : GoodIn wsX9_total (wsV RX9 60 RX9 yX9_refuse wsX9_refuse) := goodIn_app (goodIn_of _ (by decide +kernel)) ggX9_total_X9_refuse
theorem dX9_total_0 : decode cX9_total 0 = .ok (.aload_n 0, 1) := by decide +kernel
theorem dX9_total_1 : decode cX9_total 1 = .ok (.iconst 0, 1) := by decide +kernel
theorem dX9_total_2 : decode cX9_total 2 = .ok (.putfield 43, 3) := by decide +kernel
theorem dX9_total_5 : decode cX9_total 5 = .ok (.iload_n 1, 1) := by decide +kernel
theorem dX9_total_6 : decode cX9_total 6 = .ok (.tableswitch 209 0 15 #[78, 87, 96, 105, 114, 119, 128, 134, 143, 152, 161, 167, 176, 185, 194, 203], 78) := by decide +kernel
theorem dX9_total_84 : decode cX9_total 84 = .ok (.aload_n 0, 1) := by decide +kernel
theorem dX9_total_85 : decode cX9_total 85 = .ok (.getfield 7, 3) := by decide +kernel
theorem dX9_total_88 : decode cX9_total 88 = .ok (.sipush 1875, 3) := by decide +kernel
theorem dX9_total_91 : decode cX9_total 91 = .ok (.laload, 1) := by decide +kernel
theorem dX9_total_92 : decode cX9_total 92 = .ok (.lreturn, 1) := by decide +kernel
theorem dX9_total_93 : decode cX9_total 93 = .ok (.aload_n 0, 1) := by decide +kernel
theorem dX9_total_94 : decode cX9_total 94 = .ok (.getfield 7, 3) := by decide +kernel
theorem dX9_total_97 : decode cX9_total 97 = .ok (.sipush 1876, 3) := by decide +kernel
theorem dX9_total_100 : decode cX9_total 100 = .ok (.laload, 1) := by decide +kernel
theorem dX9_total_101 : decode cX9_total 101 = .ok (.lreturn, 1) := by decide +kernel
theorem dX9_total_102 : decode cX9_total 102 = .ok (.aload_n 0, 1) := by decide +kernel
theorem dX9_total_103 : decode cX9_total 103 = .ok (.getfield 7, 3) := by decide +kernel
theorem dX9_total_106 : decode cX9_total 106 = .ok (.sipush 1877, 3) := by decide +kernel
theorem dX9_total_109 : decode cX9_total 109 = .ok (.laload, 1) := by decide +kernel
theorem dX9_total_110 : decode cX9_total 110 = .ok (.lreturn, 1) := by decide +kernel
theorem dX9_total_111 : decode cX9_total 111 = .ok (.aload_n 0, 1) := by decide +kernel
theorem dX9_total_112 : decode cX9_total 112 = .ok (.getfield 7, 3) := by decide +kernel
theorem dX9_total_115 : decode cX9_total 115 = .ok (.sipush 1878, 3) := by decide +kernel
theorem dX9_total_118 : decode cX9_total 118 = .ok (.laload, 1) := by decide +kernel
theorem dX9_total_119 : decode cX9_total 119 = .ok (.lreturn, 1) := by decide +kernel
theorem dX9_total_120 : decode cX9_total 120 = .ok (.aload_n 0, 1) := by decide +kernel
theorem dX9_total_121 : decode cX9_total 121 = .ok (.invokevirtual 142, 3) := by decide +kernel
theorem dX9_total_124 : decode cX9_total 124 = .ok (.lreturn, 1) := by decide +kernel
theorem dX9_total_125 : decode cX9_total 125 = .ok (.aload_n 0, 1) := by decide +kernel
theorem dX9_total_126 : decode cX9_total 126 = .ok (.getfield 7, 3) := by decide +kernel
theorem dX9_total_129 : decode cX9_total 129 = .ok (.sipush 1879, 3) := by decide +kernel
theorem dX9_total_132 : decode cX9_total 132 = .ok (.laload, 1) := by decide +kernel
theorem dX9_total_133 : decode cX9_total 133 = .ok (.lreturn, 1) := by decide +kernel
theorem dX9_total_134 : decode cX9_total 134 = .ok (.aload_n 0, 1) := by decide +kernel
theorem dX9_total_135 : decode cX9_total 135 = .ok (.invokevirtual 233, 3) := by decide +kernel
theorem dX9_total_138 : decode cX9_total 138 = .ok (.i2l, 1) := by decide +kernel
theorem dX9_total_139 : decode cX9_total 139 = .ok (.lreturn, 1) := by decide +kernel
theorem dX9_total_140 : decode cX9_total 140 = .ok (.aload_n 0, 1) := by decide +kernel
theorem dX9_total_141 : decode cX9_total 141 = .ok (.getfield 7, 3) := by decide +kernel
theorem dX9_total_144 : decode cX9_total 144 = .ok (.sipush 1880, 3) := by decide +kernel
theorem dX9_total_147 : decode cX9_total 147 = .ok (.laload, 1) := by decide +kernel
theorem dX9_total_148 : decode cX9_total 148 = .ok (.lreturn, 1) := by decide +kernel
theorem dX9_total_149 : decode cX9_total 149 = .ok (.aload_n 0, 1) := by decide +kernel
theorem dX9_total_150 : decode cX9_total 150 = .ok (.getfield 7, 3) := by decide +kernel
theorem dX9_total_153 : decode cX9_total 153 = .ok (.sipush 1881, 3) := by decide +kernel
theorem dX9_total_156 : decode cX9_total 156 = .ok (.laload, 1) := by decide +kernel
theorem dX9_total_157 : decode cX9_total 157 = .ok (.lreturn, 1) := by decide +kernel
theorem dX9_total_158 : decode cX9_total 158 = .ok (.aload_n 0, 1) := by decide +kernel
theorem dX9_total_159 : decode cX9_total 159 = .ok (.getfield 7, 3) := by decide +kernel
theorem dX9_total_162 : decode cX9_total 162 = .ok (.sipush 1882, 3) := by decide +kernel
theorem dX9_total_165 : decode cX9_total 165 = .ok (.laload, 1) := by decide +kernel
theorem dX9_total_166 : decode cX9_total 166 = .ok (.lreturn, 1) := by decide +kernel
theorem dX9_total_167 : decode cX9_total 167 = .ok (.aload_n 0, 1) := by decide +kernel
theorem dX9_total_168 : decode cX9_total 168 = .ok (.invokevirtual 159, 3) := by decide +kernel
theorem dX9_total_171 : decode cX9_total 171 = .ok (.i2l, 1) := by decide +kernel
theorem dX9_total_172 : decode cX9_total 172 = .ok (.lreturn, 1) := by decide +kernel
theorem dX9_total_173 : decode cX9_total 173 = .ok (.aload_n 0, 1) := by decide +kernel
theorem dX9_total_174 : decode cX9_total 174 = .ok (.getfield 7, 3) := by decide +kernel
theorem dX9_total_177 : decode cX9_total 177 = .ok (.sipush 1883, 3) := by decide +kernel
theorem dX9_total_180 : decode cX9_total 180 = .ok (.laload, 1) := by decide +kernel
theorem dX9_total_181 : decode cX9_total 181 = .ok (.lreturn, 1) := by decide +kernel
theorem dX9_total_182 : decode cX9_total 182 = .ok (.aload_n 0, 1) := by decide +kernel
theorem dX9_total_183 : decode cX9_total 183 = .ok (.getfield 7, 3) := by decide +kernel
theorem dX9_total_186 : decode cX9_total 186 = .ok (.sipush 1884, 3) := by decide +kernel
theorem dX9_total_189 : decode cX9_total 189 = .ok (.laload, 1) := by decide +kernel
theorem dX9_total_190 : decode cX9_total 190 = .ok (.lreturn, 1) := by decide +kernel
theorem dX9_total_191 : decode cX9_total 191 = .ok (.aload_n 0, 1) := by decide +kernel
theorem dX9_total_192 : decode cX9_total 192 = .ok (.getfield 7, 3) := by decide +kernel
theorem dX9_total_195 : decode cX9_total 195 = .ok (.sipush 1885, 3) := by decide +kernel
theorem dX9_total_198 : decode cX9_total 198 = .ok (.laload, 1) := by decide +kernel
theorem dX9_total_199 : decode cX9_total 199 = .ok (.lreturn, 1) := by decide +kernel
theorem dX9_total_200 : decode cX9_total 200 = .ok (.aload_n 0, 1) := by decide +kernel
theorem dX9_total_201 : decode cX9_total 201 = .ok (.getfield 7, 3) := by decide +kernel
theorem dX9_total_204 : decode cX9_total 204 = .ok (.sipush 1886, 3) := by decide +kernel
theorem dX9_total_207 : decode cX9_total 207 = .ok (.laload, 1) := by decide +kernel
theorem dX9_total_208 : decode cX9_total 208 = .ok (.lreturn, 1) := by decide +kernel
theorem dX9_total_209 : decode cX9_total 209 = .ok (.aload_n 0, 1) := by decide +kernel
theorem dX9_total_210 : decode cX9_total 210 = .ok (.getfield 51, 3) := by decide +kernel
theorem dX9_total_213 : decode cX9_total 213 = .ok (.i2l, 1) := by decide +kernel
theorem dX9_total_214 : decode cX9_total 214 = .ok (.lreturn, 1) := by decide +kernel
theorem dX9_total_215 : decode cX9_total 215 = .ok (.aload_n 0, 1) := by decide +kernel
theorem dX9_total_216 : decode cX9_total 216 = .ok (.iconst 1, 1) := by decide +kernel
theorem dX9_total_217 : decode cX9_total 217 = .ok (.invokevirtual 60, 3) := by decide +kernel
theorem dX9_total_220 : decode cX9_total 220 = .ok (.i2l, 1) := by decide +kernel
theorem dX9_total_221 : decode cX9_total 221 = .ok (.lreturn, 1) := by decide +kernel
set_option maxRecDepth 20000 in
theorem ggX9_meanAge_X9_blocks : GoodIn wsX9_meanAge wsX9_blocks := goodIn_r _ [7, 2, 8, 9, 10, 11, 12, 13, 14, 15, 16, 17, 18, 19, 20] (by decide +kernel) (by decide +kernel)
set_option maxRecDepth 20000 in
theorem gX9_meanAge_X9_blocks : GoodIn wsX9_meanAge (wsV RX9 233 RX9 yX9_blocks wsX9_blocks) := goodIn_app (goodIn_of _ (by decide +kernel)) ggX9_meanAge_X9_blocks
theorem dX9_meanAge_0 : decode cX9_meanAge 0 = .ok (.aload_n 0, 1) := by decide +kernel
theorem dX9_meanAge_1 : decode cX9_meanAge 1 = .ok (.iconst 0, 1) := by decide +kernel
theorem dX9_meanAge_2 : decode cX9_meanAge 2 = .ok (.putfield 43, 3) := by decide +kernel
theorem dX9_meanAge_5 : decode cX9_meanAge 5 = .ok (.lconst 0, 1) := by decide +kernel
theorem dX9_meanAge_6 : decode cX9_meanAge 6 = .ok (.lstore_n 1, 1) := by decide +kernel
theorem dX9_meanAge_7 : decode cX9_meanAge 7 = .ok (.iconst 0, 1) := by decide +kernel
theorem dX9_meanAge_8 : decode cX9_meanAge 8 = .ok (.istore_n 3, 1) := by decide +kernel
theorem dX9_meanAge_9 : decode cX9_meanAge 9 = .ok (.iload_n 3, 1) := by decide +kernel
theorem dX9_meanAge_10 : decode cX9_meanAge 10 = .ok (.i2l, 1) := by decide +kernel
theorem dX9_meanAge_11 : decode cX9_meanAge 11 = .ok (.aload_n 0, 1) := by decide +kernel
theorem dX9_meanAge_12 : decode cX9_meanAge 12 = .ok (.getfield 7, 3) := by decide +kernel
theorem dX9_meanAge_15 : decode cX9_meanAge 15 = .ok (.sipush 1880, 3) := by decide +kernel
theorem dX9_meanAge_18 : decode cX9_meanAge 18 = .ok (.laload, 1) := by decide +kernel
theorem dX9_meanAge_19 : decode cX9_meanAge 19 = .ok (.lcmp, 1) := by decide +kernel
theorem dX9_meanAge_20 : decode cX9_meanAge 20 = .ok (.ifCond .ge 53, 3) := by decide +kernel
theorem dX9_meanAge_23 : decode cX9_meanAge 23 = .ok (.iconst 0, 1) := by decide +kernel
theorem dX9_meanAge_24 : decode cX9_meanAge 24 = .ok (.istore 4, 2) := by decide +kernel
theorem dX9_meanAge_26 : decode cX9_meanAge 26 = .ok (.iload 4, 2) := by decide +kernel
theorem dX9_meanAge_28 : decode cX9_meanAge 28 = .ok (.i2l, 1) := by decide +kernel
theorem dX9_meanAge_29 : decode cX9_meanAge 29 = .ok (.aload_n 0, 1) := by decide +kernel
theorem dX9_meanAge_30 : decode cX9_meanAge 30 = .ok (.getfield 7, 3) := by decide +kernel
theorem dX9_meanAge_33 : decode cX9_meanAge 33 = .ok (.bipush 47, 2) := by decide +kernel
theorem dX9_meanAge_35 : decode cX9_meanAge 35 = .ok (.iload_n 3, 1) := by decide +kernel
theorem dX9_meanAge_36 : decode cX9_meanAge 36 = .ok (.iadd, 1) := by decide +kernel
theorem dX9_meanAge_37 : decode cX9_meanAge 37 = .ok (.laload, 1) := by decide +kernel
theorem dX9_meanAge_38 : decode cX9_meanAge 38 = .ok (.lcmp, 1) := by decide +kernel
theorem dX9_meanAge_39 : decode cX9_meanAge 39 = .ok (.ifCond .ge 28, 3) := by decide +kernel
theorem dX9_meanAge_42 : decode cX9_meanAge 42 = .ok (.lload_n 1, 1) := by decide +kernel
theorem dX9_meanAge_43 : decode cX9_meanAge 43 = .ok (.aload_n 0, 1) := by decide +kernel
theorem dX9_meanAge_44 : decode cX9_meanAge 44 = .ok (.getfield 7, 3) := by decide +kernel
theorem dX9_meanAge_47 : decode cX9_meanAge 47 = .ok (.sipush 357, 3) := by decide +kernel
theorem dX9_meanAge_50 : decode cX9_meanAge 50 = .ok (.bipush 30, 2) := by decide +kernel
theorem dX9_meanAge_52 : decode cX9_meanAge 52 = .ok (.iload_n 3, 1) := by decide +kernel
theorem dX9_meanAge_53 : decode cX9_meanAge 53 = .ok (.imul, 1) := by decide +kernel
theorem dX9_meanAge_54 : decode cX9_meanAge 54 = .ok (.iadd, 1) := by decide +kernel
theorem dX9_meanAge_55 : decode cX9_meanAge 55 = .ok (.iload 4, 2) := by decide +kernel
theorem dX9_meanAge_57 : decode cX9_meanAge 57 = .ok (.iadd, 1) := by decide +kernel
theorem dX9_meanAge_58 : decode cX9_meanAge 58 = .ok (.laload, 1) := by decide +kernel
theorem dX9_meanAge_59 : decode cX9_meanAge 59 = .ok (.ladd, 1) := by decide +kernel
theorem dX9_meanAge_60 : decode cX9_meanAge 60 = .ok (.lstore_n 1, 1) := by decide +kernel
theorem dX9_meanAge_61 : decode cX9_meanAge 61 = .ok (.iinc 4 1, 3) := by decide +kernel
theorem dX9_meanAge_64 : decode cX9_meanAge 64 = .ok (.goto (-38), 3) := by decide +kernel
theorem dX9_meanAge_67 : decode cX9_meanAge 67 = .ok (.iinc 3 1, 3) := by decide +kernel
theorem dX9_meanAge_70 : decode cX9_meanAge 70 = .ok (.goto (-61), 3) := by decide +kernel
theorem dX9_meanAge_73 : decode cX9_meanAge 73 = .ok (.aload_n 0, 1) := by decide +kernel
theorem dX9_meanAge_74 : decode cX9_meanAge 74 = .ok (.invokevirtual 233, 3) := by decide +kernel
theorem dX9_meanAge_77 : decode cX9_meanAge 77 = .ok (.istore_n 3, 1) := by decide +kernel
theorem dX9_meanAge_78 : decode cX9_meanAge 78 = .ok (.iload_n 3, 1) := by decide +kernel
theorem dX9_meanAge_79 : decode cX9_meanAge 79 = .ok (.ifCond .ne 7, 3) := by decide +kernel
theorem dX9_meanAge_82 : decode cX9_meanAge 82 = .ok (.dconst 0, 1) := by decide +kernel
theorem dX9_meanAge_83 : decode cX9_meanAge 83 = .ok (.goto 8, 3) := by decide +kernel
theorem dX9_meanAge_86 : decode cX9_meanAge 86 = .ok (.lload_n 1, 1) := by decide +kernel
theorem dX9_meanAge_87 : decode cX9_meanAge 87 = .ok (.l2d, 1) := by decide +kernel
theorem dX9_meanAge_88 : decode cX9_meanAge 88 = .ok (.iload_n 3, 1) := by decide +kernel
theorem dX9_meanAge_89 : decode cX9_meanAge 89 = .ok (.i2d, 1) := by decide +kernel
theorem dX9_meanAge_90 : decode cX9_meanAge 90 = .ok (.ddiv, 1) := by decide +kernel
theorem dX9_meanAge_91 : decode cX9_meanAge 91 = .ok (.dreturn, 1) := by decide +kernel
theorem dX9_beginTrial_0 : decode cX9_beginTrial 0 = .ok (.iconst 0, 1) := by decide +kernel
theorem dX9_beginTrial_1 : decode cX9_beginTrial 1 = .ok (.istore_n 1, 1) := by decide +kernel
theorem dX9_beginTrial_2 : decode cX9_beginTrial 2 = .ok (.iload_n 1, 1) := by decide +kernel
theorem dX9_beginTrial_3 : decode cX9_beginTrial 3 = .ok (.sipush 1888, 3) := by decide +kernel
theorem dX9_beginTrial_6 : decode cX9_beginTrial 6 = .ok (.if_icmp .ge 21, 3) := by decide +kernel
theorem dX9_beginTrial_9 : decode cX9_beginTrial 9 = .ok (.aload_n 0, 1) := by decide +kernel
theorem dX9_beginTrial_10 : decode cX9_beginTrial 10 = .ok (.getfield 16, 3) := by decide +kernel
theorem dX9_beginTrial_13 : decode cX9_beginTrial 13 = .ok (.iload_n 1, 1) := by decide +kernel
theorem dX9_beginTrial_14 : decode cX9_beginTrial 14 = .ok (.aload_n 0, 1) := by decide +kernel
theorem dX9_beginTrial_15 : decode cX9_beginTrial 15 = .ok (.getfield 7, 3) := by decide +kernel
theorem dX9_beginTrial_18 : decode cX9_beginTrial 18 = .ok (.iload_n 1, 1) := by decide +kernel
theorem dX9_beginTrial_19 : decode cX9_beginTrial 19 = .ok (.laload, 1) := by decide +kernel
theorem dX9_beginTrial_20 : decode cX9_beginTrial 20 = .ok (.lastore, 1) := by decide +kernel
theorem dX9_beginTrial_21 : decode cX9_beginTrial 21 = .ok (.iinc 1 1, 3) := by decide +kernel
theorem dX9_beginTrial_24 : decode cX9_beginTrial 24 = .ok (.goto (-22), 3) := by decide +kernel
theorem dX9_beginTrial_27 : decode cX9_beginTrial 27 = .ok (.return_, 1) := by decide +kernel
theorem dX9_endTrial_0 : decode cX9_endTrial 0 = .ok (.iconst 0, 1) := by decide +kernel
theorem dX9_endTrial_1 : decode cX9_endTrial 1 = .ok (.istore_n 1, 1) := by decide +kernel
theorem dX9_endTrial_2 : decode cX9_endTrial 2 = .ok (.iload_n 1, 1) := by decide +kernel
theorem dX9_endTrial_3 : decode cX9_endTrial 3 = .ok (.sipush 1888, 3) := by decide +kernel
theorem dX9_endTrial_6 : decode cX9_endTrial 6 = .ok (.if_icmp .ge 21, 3) := by decide +kernel
theorem dX9_endTrial_9 : decode cX9_endTrial 9 = .ok (.aload_n 0, 1) := by decide +kernel
theorem dX9_endTrial_10 : decode cX9_endTrial 10 = .ok (.getfield 7, 3) := by decide +kernel
theorem dX9_endTrial_13 : decode cX9_endTrial 13 = .ok (.iload_n 1, 1) := by decide +kernel
theorem dX9_endTrial_14 : decode cX9_endTrial 14 = .ok (.aload_n 0, 1) := by decide +kernel
theorem dX9_endTrial_15 : decode cX9_endTrial 15 = .ok (.getfield 16, 3) := by decide +kernel
theorem dX9_endTrial_18 : decode cX9_endTrial 18 = .ok (.iload_n 1, 1) := by decide +kernel
theorem dX9_endTrial_19 : decode cX9_endTrial 19 = .ok (.laload, 1) := by decide +kernel
theorem dX9_endTrial_20 : decode cX9_endTrial 20 = .ok (.lastore, 1) := by decide +kernel
theorem dX9_endTrial_21 : decode cX9_endTrial 21 = .ok (.iinc 1 1, 3) := by decide +kernel
theorem dX9_endTrial_24 : decode cX9_endTrial 24 = .ok (.goto (-22), 3) := by decide +kernel
theorem dX9_endTrial_27 : decode cX9_endTrial 27 = .ok (.return_, 1) := by decide +kernel
set_option maxRecDepth 20000 in
theorem ggX9_massAfter_X9_in : GoodIn wsX9_massAfter wsX9_in := goodIn_r _ [6] (by decide +kernel) (by decide +kernel)
set_option maxRecDepth 20000 in
theorem gX9_massAfter_X9_in : GoodIn wsX9_massAfter (va_wsS RX9 47 yX9_in wsX9_in) := goodIn_app (goodIn_of _ (by decide +kernel)) ggX9_massAfter_X9_in
set_option maxRecDepth 20000 in
theorem ggX9_massAfter_X9_refuse : GoodIn wsX9_massAfter wsX9_refuse := goodIn_r _ [10, 1, 124, 125, 126, 127, 128, 129, 130, 131, 132, 133, 134, 135, 136] (by decide +kernel) (by decide +kernel)
set_option maxRecDepth 20000 in
theorem gX9_massAfter_X9_refuse : GoodIn wsX9_massAfter (wsV RX9 60 RX9 yX9_refuse wsX9_refuse) := goodIn_app (goodIn_of _ (by decide +kernel)) ggX9_massAfter_X9_refuse
set_option maxRecDepth 20000 in
theorem ggX9_massAfter_X9_beginTrial : GoodIn wsX9_massAfter wsX9_beginTrial := goodIn_r _ [14, 15, 16, 124, 125, 126, 127, 128, 129, 130, 131, 132, 133, 134, 135, 136] (by decide +kernel) (by decide +kernel)
set_option maxRecDepth 20000 in
theorem gX9_massAfter_X9_beginTrial : GoodIn wsX9_massAfter (wsV RX9 236 RX9 yX9_beginTrial wsX9_beginTrial) := goodIn_app (goodIn_of _ (by decide +kernel)) ggX9_massAfter_X9_beginTrial
set_option maxRecDepth 20000 in
theorem ggX9_massAfter_X9_doPass : GoodIn wsX9_massAfter wsX9_doPass := goodIn_r _ [20, 16, 21, 22, 23, 5, 24, 25, 26, 27, 28, 29, 30, 31, 32, 33, 34, 35, 36, 37, 38, 39, 40, 41, 42, 43, 44, 45, 46, 47, 48, 49, 50, 51, 52, 53, 54, 55, 56, 57, 58, 59, 60, 61, 62, 63, 64, 65, 66, 67, 68, 69, 70, 71, 72, 73, 74, 75, 76, 77, 78, 79, 80, 81, 82, 83, 84, 85, 86, 87, 88, 89, 90, 91, 92, 93, 94, 95, 96, 97, 3, 4, 6, 98, 99, 100, 101, 102, 103, 104, 105, 106, 107, 108, 109, 110, 111, 112, 113, 114, 115, 116, 117, 118, 119, 124, 125, 126, 127, 128, 129, 130, 131, 132, 133, 134, 135, 136] (by decide +kernel) (by decide +kernel)
set_option maxRecDepth 20000 in
theorem gX9_massAfter_X9_doPass : GoodIn wsX9_massAfter (wsV RX9 191 RX9 yX9_doPass wsX9_doPass) := goodIn_app (goodIn_of _ (by decide +kernel)) ggX9_massAfter_X9_doPass
set_option maxRecDepth 20000 in
theorem ggX9_massAfter_X9_stored : GoodIn wsX9_massAfter wsX9_stored := goodIn_r _ [87, 16, 124, 125, 126, 127, 128, 129, 130, 131, 132, 133, 134, 135, 136] (by decide +kernel) (by decide +kernel)
set_option maxRecDepth 20000 in
theorem gX9_massAfter_X9_stored : GoodIn wsX9_massAfter (wsV RX9 142 RX9 yX9_stored wsX9_stored) := goodIn_app (goodIn_of _ (by decide +kernel)) ggX9_massAfter_X9_stored
set_option maxRecDepth 20000 in
theorem ggX9_massAfter_X9_endTrial : GoodIn wsX9_massAfter wsX9_endTrial := goodIn_r _ [123, 16, 15, 124, 125, 126, 127, 128, 129, 130, 131, 132, 133, 134, 135, 136] (by decide +kernel) (by decide +kernel)
set_option maxRecDepth 20000 in
theorem gX9_massAfter_X9_endTrial : GoodIn wsX9_massAfter (wsV RX9 239 RX9 yX9_endTrial wsX9_endTrial) := goodIn_app (goodIn_of _ (by decide +kernel)) ggX9_massAfter_X9_endTrial
theorem dX9_massAfter_0 : decode cX9_massAfter 0 = .ok (.aload_n 0, 1) := by decide +kernel
theorem dX9_massAfter_1 : decode cX9_massAfter 1 = .ok (.iconst 0, 1) := by decide +kernel
theorem dX9_massAfter_2 : decode cX9_massAfter 2 = .ok (.putfield 43, 3) := by decide +kernel
theorem dX9_massAfter_5 : decode cX9_massAfter 5 = .ok (.iload_n 1, 1) := by decide +kernel
theorem dX9_massAfter_6 : decode cX9_massAfter 6 = .ok (.i2l, 1) := by decide +kernel
theorem dX9_massAfter_7 : decode cX9_massAfter 7 = .ok (.lconst 0, 1) := by decide +kernel
theorem dX9_massAfter_8 : decode cX9_massAfter 8 = .ok (.ldc2_w 181, 3) := by decide +kernel
theorem dX9_massAfter_11 : decode cX9_massAfter 11 = .ok (.invokestatic 47, 3) := by decide +kernel
theorem dX9_massAfter_14 : decode cX9_massAfter 14 = .ok (.ifCond .ne 9, 3) := by decide +kernel
theorem dX9_massAfter_17 : decode cX9_massAfter 17 = .ok (.aload_n 0, 1) := by decide +kernel
theorem dX9_massAfter_18 : decode cX9_massAfter 18 = .ok (.iconst 1, 1) := by decide +kernel
theorem dX9_massAfter_19 : decode cX9_massAfter 19 = .ok (.invokevirtual 60, 3) := by decide +kernel
theorem dX9_massAfter_22 : decode cX9_massAfter 22 = .ok (.ireturn, 1) := by decide +kernel
theorem dX9_massAfter_23 : decode cX9_massAfter 23 = .ok (.aload_n 0, 1) := by decide +kernel
theorem dX9_massAfter_24 : decode cX9_massAfter 24 = .ok (.invokevirtual 236, 3) := by decide +kernel
theorem dX9_massAfter_27 : decode cX9_massAfter 27 = .ok (.aload_n 0, 1) := by decide +kernel
theorem dX9_massAfter_28 : decode cX9_massAfter 28 = .ok (.iload_n 1, 1) := by decide +kernel
theorem dX9_massAfter_29 : decode cX9_massAfter 29 = .ok (.invokevirtual 191, 3) := by decide +kernel
theorem dX9_massAfter_32 : decode cX9_massAfter 32 = .ok (.istore_n 2, 1) := by decide +kernel
theorem dX9_massAfter_33 : decode cX9_massAfter 33 = .ok (.aload_n 0, 1) := by decide +kernel
theorem dX9_massAfter_34 : decode cX9_massAfter 34 = .ok (.invokevirtual 142, 3) := by decide +kernel
theorem dX9_massAfter_37 : decode cX9_massAfter 37 = .ok (.l2i, 1) := by decide +kernel
theorem dX9_massAfter_38 : decode cX9_massAfter 38 = .ok (.istore_n 3, 1) := by decide +kernel
theorem dX9_massAfter_39 : decode cX9_massAfter 39 = .ok (.aload_n 0, 1) := by decide +kernel
theorem dX9_massAfter_40 : decode cX9_massAfter 40 = .ok (.invokevirtual 239, 3) := by decide +kernel
theorem dX9_massAfter_43 : decode cX9_massAfter 43 = .ok (.iload_n 3, 1) := by decide +kernel
theorem dX9_massAfter_44 : decode cX9_massAfter 44 = .ok (.ireturn, 1) := by decide +kernel
set_option maxRecDepth 20000 in
theorem ggX9_completeIn_X9_isOrder : GoodIn wsX9_completeIn wsX9_isOrder := goodIn_r _ [7, 2, 8, 9, 6, 10, 123, 124, 125, 126, 127, 128, 129, 130, 131, 132, 133, 134, 135] (by decide +kernel) (by decide +kernel)
set_option maxRecDepth 20000 in
theorem gX9_completeIn_X9_isOrder : GoodIn wsX9_completeIn (wsV RX9 216 RX9 yX9_isOrder wsX9_isOrder) := goodIn_app (goodIn_of _ (by decide +kernel)) ggX9_completeIn_X9_isOrder
set_option maxRecDepth 20000 in
theorem ggX9_completeIn_X9_refuse : GoodIn wsX9_completeIn wsX9_refuse := goodIn_r _ [14, 1, 123, 124, 125, 126, 127, 128, 129, 130, 131, 132, 133, 134, 135] (by decide +kernel) (by decide +kernel)
set_option maxRecDepth 20000 in
theorem gX9_completeIn_X9_refuse : GoodIn wsX9_completeIn (wsV RX9 60 RX9 yX9_refuse wsX9_refuse) := goodIn_app (goodIn_of _ (by decide +kernel)) ggX9_completeIn_X9_refuse
set_option maxRecDepth 20000 in
theorem ggX9_completeIn_X9_beginTrial : GoodIn wsX9_completeIn wsX9_beginTrial := goodIn_r _ [18, 19, 2, 123, 124, 125, 126, 127, 128, 129, 130, 131, 132, 133, 134, 135] (by decide +kernel) (by decide +kernel)
set_option maxRecDepth 20000 in
theorem gX9_completeIn_X9_beginTrial : GoodIn wsX9_completeIn (wsV RX9 236 RX9 yX9_beginTrial wsX9_beginTrial) := goodIn_app (goodIn_of _ (by decide +kernel)) ggX9_completeIn_X9_beginTrial
set_option maxRecDepth 20000 in
theorem ggX9_completeIn_X9_hour : GoodIn wsX9_completeIn wsX9_hour := goodIn_r _ [23, 2, 24, 25, 26, 6, 27, 28, 29, 30, 31, 32, 33, 34, 35, 36, 37, 38, 39, 40, 41, 42, 43, 44, 45, 46, 47, 48, 49, 50, 51, 52, 53, 54, 55, 56, 57, 58, 59, 60, 61, 62, 63, 64, 65, 66, 67, 68, 69, 70, 71, 72, 73, 74, 75, 76, 77, 78, 79, 80, 81, 82, 83, 84, 85, 86, 87, 88, 89, 90, 91, 92, 93, 94, 95, 96, 8, 9, 10, 97, 98, 99, 100, 101, 102, 103, 104, 105, 106, 107, 108, 109, 110, 111, 112, 113, 114, 115, 116, 117, 118, 123, 124, 125, 126, 127, 128, 129, 130, 131, 132, 133, 134, 135] (by decide +kernel) (by decide +kernel)
set_option maxRecDepth 20000 in
theorem gX9_completeIn_X9_hour : GoodIn wsX9_completeIn (wsV RX9 185 RX9 yX9_hour wsX9_hour) := goodIn_app (goodIn_of _ (by decide +kernel)) ggX9_completeIn_X9_hour
set_option maxRecDepth 20000 in
theorem ggX9_completeIn_X9_endTrial : GoodIn wsX9_completeIn wsX9_endTrial := goodIn_r _ [122, 2, 19, 123, 124, 125, 126, 127, 128, 129, 130, 131, 132, 133, 134, 135] (by decide +kernel) (by decide +kernel)
set_option maxRecDepth 20000 in
theorem gX9_completeIn_X9_endTrial : GoodIn wsX9_completeIn (wsV RX9 239 RX9 yX9_endTrial wsX9_endTrial) := goodIn_app (goodIn_of _ (by decide +kernel)) ggX9_completeIn_X9_endTrial
theorem dX9_completeIn_0 : decode cX9_completeIn 0 = .ok (.aload_n 0, 1) := by decide +kernel
theorem dX9_completeIn_1 : decode cX9_completeIn 1 = .ok (.iconst 0, 1) := by decide +kernel
theorem dX9_completeIn_2 : decode cX9_completeIn 2 = .ok (.putfield 43, 3) := by decide +kernel
theorem dX9_completeIn_5 : decode cX9_completeIn 5 = .ok (.aload_n 0, 1) := by decide +kernel
theorem dX9_completeIn_6 : decode cX9_completeIn 6 = .ok (.iload_n 1, 1) := by decide +kernel
theorem dX9_completeIn_7 : decode cX9_completeIn 7 = .ok (.invokevirtual 216, 3) := by decide +kernel
theorem dX9_completeIn_10 : decode cX9_completeIn 10 = .ok (.ifCond .ne 9, 3) := by decide +kernel
theorem dX9_completeIn_13 : decode cX9_completeIn 13 = .ok (.aload_n 0, 1) := by decide +kernel
theorem dX9_completeIn_14 : decode cX9_completeIn 14 = .ok (.iconst 1, 1) := by decide +kernel
theorem dX9_completeIn_15 : decode cX9_completeIn 15 = .ok (.invokevirtual 60, 3) := by decide +kernel
theorem dX9_completeIn_18 : decode cX9_completeIn 18 = .ok (.ireturn, 1) := by decide +kernel
theorem dX9_completeIn_19 : decode cX9_completeIn 19 = .ok (.aload_n 0, 1) := by decide +kernel
theorem dX9_completeIn_20 : decode cX9_completeIn 20 = .ok (.getfield 7, 3) := by decide +kernel
theorem dX9_completeIn_23 : decode cX9_completeIn 23 = .ok (.sipush 1531, 3) := by decide +kernel
theorem dX9_completeIn_26 : decode cX9_completeIn 26 = .ok (.iload_n 1, 1) := by decide +kernel
theorem dX9_completeIn_27 : decode cX9_completeIn 27 = .ok (.iadd, 1) := by decide +kernel
theorem dX9_completeIn_28 : decode cX9_completeIn 28 = .ok (.laload, 1) := by decide +kernel
theorem dX9_completeIn_29 : decode cX9_completeIn 29 = .ok (.lconst 0, 1) := by decide +kernel
theorem dX9_completeIn_30 : decode cX9_completeIn 30 = .ok (.lcmp, 1) := by decide +kernel
theorem dX9_completeIn_31 : decode cX9_completeIn 31 = .ok (.ifCond .eq 9, 3) := by decide +kernel
theorem dX9_completeIn_34 : decode cX9_completeIn 34 = .ok (.aload_n 0, 1) := by decide +kernel
theorem dX9_completeIn_35 : decode cX9_completeIn 35 = .ok (.iconst 2, 1) := by decide +kernel
theorem dX9_completeIn_36 : decode cX9_completeIn 36 = .ok (.invokevirtual 60, 3) := by decide +kernel
theorem dX9_completeIn_39 : decode cX9_completeIn 39 = .ok (.ireturn, 1) := by decide +kernel
theorem dX9_completeIn_40 : decode cX9_completeIn 40 = .ok (.aload_n 0, 1) := by decide +kernel
theorem dX9_completeIn_41 : decode cX9_completeIn 41 = .ok (.invokevirtual 236, 3) := by decide +kernel
theorem dX9_completeIn_44 : decode cX9_completeIn 44 = .ok (.iconst 0, 1) := by decide +kernel
theorem dX9_completeIn_45 : decode cX9_completeIn 45 = .ok (.istore_n 2, 1) := by decide +kernel
theorem dX9_completeIn_46 : decode cX9_completeIn 46 = .ok (.iload_n 2, 1) := by decide +kernel
theorem dX9_completeIn_47 : decode cX9_completeIn 47 = .ok (.bipush 48, 2) := by decide +kernel
theorem dX9_completeIn_49 : decode cX9_completeIn 49 = .ok (.if_icmp .ge 28, 3) := by decide +kernel
theorem dX9_completeIn_52 : decode cX9_completeIn 52 = .ok (.aload_n 0, 1) := by decide +kernel
theorem dX9_completeIn_53 : decode cX9_completeIn 53 = .ok (.getfield 7, 3) := by decide +kernel
theorem dX9_completeIn_56 : decode cX9_completeIn 56 = .ok (.sipush 1531, 3) := by decide +kernel
theorem dX9_completeIn_59 : decode cX9_completeIn 59 = .ok (.iload_n 1, 1) := by decide +kernel
theorem dX9_completeIn_60 : decode cX9_completeIn 60 = .ok (.iadd, 1) := by decide +kernel
theorem dX9_completeIn_61 : decode cX9_completeIn 61 = .ok (.laload, 1) := by decide +kernel
theorem dX9_completeIn_62 : decode cX9_completeIn 62 = .ok (.lconst 0, 1) := by decide +kernel
theorem dX9_completeIn_63 : decode cX9_completeIn 63 = .ok (.lcmp, 1) := by decide +kernel
theorem dX9_completeIn_64 : decode cX9_completeIn 64 = .ok (.ifCond .ne 13, 3) := by decide +kernel
theorem dX9_completeIn_67 : decode cX9_completeIn 67 = .ok (.aload_n 0, 1) := by decide +kernel
theorem dX9_completeIn_68 : decode cX9_completeIn 68 = .ok (.invokevirtual 185, 3) := by decide +kernel
theorem dX9_completeIn_71 : decode cX9_completeIn 71 = .ok (.iinc 2 1, 3) := by decide +kernel
theorem dX9_completeIn_74 : decode cX9_completeIn 74 = .ok (.goto (-28), 3) := by decide +kernel
theorem dX9_completeIn_77 : decode cX9_completeIn 77 = .ok (.aload_n 0, 1) := by decide +kernel
theorem dX9_completeIn_78 : decode cX9_completeIn 78 = .ok (.getfield 7, 3) := by decide +kernel
theorem dX9_completeIn_81 : decode cX9_completeIn 81 = .ok (.sipush 1531, 3) := by decide +kernel
theorem dX9_completeIn_84 : decode cX9_completeIn 84 = .ok (.iload_n 1, 1) := by decide +kernel
theorem dX9_completeIn_85 : decode cX9_completeIn 85 = .ok (.iadd, 1) := by decide +kernel
theorem dX9_completeIn_86 : decode cX9_completeIn 86 = .ok (.laload, 1) := by decide +kernel
theorem dX9_completeIn_87 : decode cX9_completeIn 87 = .ok (.lconst 1, 1) := by decide +kernel
theorem dX9_completeIn_88 : decode cX9_completeIn 88 = .ok (.lcmp, 1) := by decide +kernel
theorem dX9_completeIn_89 : decode cX9_completeIn 89 = .ok (.ifCond .ne 7, 3) := by decide +kernel
theorem dX9_completeIn_92 : decode cX9_completeIn 92 = .ok (.iconst 1, 1) := by decide +kernel
theorem dX9_completeIn_93 : decode cX9_completeIn 93 = .ok (.goto 4, 3) := by decide +kernel
theorem dX9_completeIn_96 : decode cX9_completeIn 96 = .ok (.iconst 0, 1) := by decide +kernel
theorem dX9_completeIn_97 : decode cX9_completeIn 97 = .ok (.istore_n 3, 1) := by decide +kernel
theorem dX9_completeIn_98 : decode cX9_completeIn 98 = .ok (.aload_n 0, 1) := by decide +kernel
theorem dX9_completeIn_99 : decode cX9_completeIn 99 = .ok (.invokevirtual 239, 3) := by decide +kernel
theorem dX9_completeIn_102 : decode cX9_completeIn 102 = .ok (.iload_n 3, 1) := by decide +kernel
theorem dX9_completeIn_103 : decode cX9_completeIn 103 = .ok (.ifCond .eq 7, 3) := by decide +kernel
theorem dX9_completeIn_106 : decode cX9_completeIn 106 = .ok (.iload_n 2, 1) := by decide +kernel
theorem dX9_completeIn_107 : decode cX9_completeIn 107 = .ok (.goto 4, 3) := by decide +kernel
theorem dX9_completeIn_110 : decode cX9_completeIn 110 = .ok (.iconst (-1), 1) := by decide +kernel
theorem dX9_completeIn_111 : decode cX9_completeIn 111 = .ok (.ireturn, 1) := by decide +kernel
set_option maxRecDepth 20000 in
theorem ggX9_bestRule_X9_isSilo : GoodIn wsX9_bestRule wsX9_isSilo := goodIn_r _ [9, 3, 10, 11, 8, 12, 127, 128, 129, 130, 131, 132, 133, 134, 135, 136, 137, 138, 139] (by decide +kernel) (by decide +kernel)
set_option maxRecDepth 20000 in
theorem gX9_bestRule_X9_isSilo : GoodIn wsX9_bestRule (wsV RX9 69 RX9 yX9_isSilo wsX9_isSilo) := goodIn_app (goodIn_of _ (by decide +kernel)) ggX9_bestRule_X9_isSilo
set_option maxRecDepth 20000 in
theorem ggX9_bestRule_X9_refuse : GoodIn wsX9_bestRule wsX9_refuse := goodIn_r _ [16, 1, 127, 128, 129, 130, 131, 132, 133, 134, 135, 136, 137, 138, 139] (by decide +kernel) (by decide +kernel)
set_option maxRecDepth 20000 in
theorem gX9_bestRule_X9_refuse : GoodIn wsX9_bestRule (wsV RX9 60 RX9 yX9_refuse wsX9_refuse) := goodIn_app (goodIn_of _ (by decide +kernel)) ggX9_bestRule_X9_refuse
set_option maxRecDepth 20000 in
theorem ggX9_bestRule_X9_in : GoodIn wsX9_bestRule wsX9_in := goodIn_r _ [12] (by decide +kernel) (by decide +kernel)
set_option maxRecDepth 20000 in
theorem gX9_bestRule_X9_in : GoodIn wsX9_bestRule (va_wsS RX9 47 yX9_in wsX9_in) := goodIn_app (goodIn_of _ (by decide +kernel)) ggX9_bestRule_X9_in
set_option maxRecDepth 20000 in
theorem ggX9_bestRule_X9_beginTrial : GoodIn wsX9_bestRule wsX9_beginTrial := goodIn_r _ [20, 4, 3, 127, 128, 129, 130, 131, 132, 133, 134, 135, 136, 137, 138, 139] (by decide +kernel) (by decide +kernel)
set_option maxRecDepth 20000 in
theorem gX9_bestRule_X9_beginTrial : GoodIn wsX9_bestRule (wsV RX9 236 RX9 yX9_beginTrial wsX9_beginTrial) := goodIn_app (goodIn_of _ (by decide +kernel)) ggX9_bestRule_X9_beginTrial
set_option maxRecDepth 20000 in
theorem ggX9_bestRule_X9_doPass : GoodIn wsX9_bestRule wsX9_doPass := goodIn_r _ [24, 3, 25, 26, 27, 8, 28, 29, 30, 31, 32, 33, 34, 35, 36, 37, 38, 39, 40, 41, 42, 43, 44, 2, 45, 46, 47, 48, 49, 50, 51, 52, 53, 54, 55, 56, 57, 58, 59, 60, 61, 62, 63, 64, 65, 66, 67, 68, 69, 70, 71, 72, 73, 74, 75, 76, 77, 78, 79, 80, 81, 82, 83, 84, 85, 86, 87, 88, 89, 90, 91, 92, 93, 94, 95, 96, 97, 98, 99, 100, 10, 11, 12, 101, 102, 103, 104, 105, 106, 107, 108, 109, 110, 111, 112, 113, 114, 115, 116, 117, 118, 119, 120, 121, 122, 127, 128, 129, 130, 131, 132, 133, 134, 135, 136, 137, 138, 139] (by decide +kernel) (by decide +kernel)
set_option maxRecDepth 20000 in
theorem gX9_bestRule_X9_doPass : GoodIn wsX9_bestRule (wsV RX9 191 RX9 yX9_doPass wsX9_doPass) := goodIn_app (goodIn_of _ (by decide +kernel)) ggX9_bestRule_X9_doPass
set_option maxRecDepth 20000 in
theorem ggX9_bestRule_X9_endTrial : GoodIn wsX9_bestRule wsX9_endTrial := goodIn_r _ [126, 3, 4, 127, 128, 129, 130, 131, 132, 133, 134, 135, 136, 137, 138, 139] (by decide +kernel) (by decide +kernel)
set_option maxRecDepth 20000 in
theorem gX9_bestRule_X9_endTrial : GoodIn wsX9_bestRule (wsV RX9 239 RX9 yX9_endTrial wsX9_endTrial) := goodIn_app (goodIn_of _ (by decide +kernel)) ggX9_bestRule_X9_endTrial
theorem dX9_bestRule_0 : decode cX9_bestRule 0 = .ok (.aload_n 0, 1) := by decide +kernel
theorem dX9_bestRule_1 : decode cX9_bestRule 1 = .ok (.iconst 0, 1) := by decide +kernel
theorem dX9_bestRule_2 : decode cX9_bestRule 2 = .ok (.putfield 43, 3) := by decide +kernel
theorem dX9_bestRule_5 : decode cX9_bestRule 5 = .ok (.aload_n 0, 1) := by decide +kernel
theorem dX9_bestRule_6 : decode cX9_bestRule 6 = .ok (.iload_n 1, 1) := by decide +kernel
theorem dX9_bestRule_7 : decode cX9_bestRule 7 = .ok (.invokevirtual 69, 3) := by decide +kernel
theorem dX9_bestRule_10 : decode cX9_bestRule 10 = .ok (.ifCond .ne 9, 3) := by decide +kernel
theorem dX9_bestRule_13 : decode cX9_bestRule 13 = .ok (.aload_n 0, 1) := by decide +kernel
theorem dX9_bestRule_14 : decode cX9_bestRule 14 = .ok (.iconst 1, 1) := by decide +kernel
theorem dX9_bestRule_15 : decode cX9_bestRule 15 = .ok (.invokevirtual 60, 3) := by decide +kernel
theorem dX9_bestRule_18 : decode cX9_bestRule 18 = .ok (.ireturn, 1) := by decide +kernel
theorem dX9_bestRule_19 : decode cX9_bestRule 19 = .ok (.iload_n 2, 1) := by decide +kernel
theorem dX9_bestRule_20 : decode cX9_bestRule 20 = .ok (.i2l, 1) := by decide +kernel
theorem dX9_bestRule_21 : decode cX9_bestRule 21 = .ok (.lconst 1, 1) := by decide +kernel
theorem dX9_bestRule_22 : decode cX9_bestRule 22 = .ok (.ldc2_w 98, 3) := by decide +kernel
theorem dX9_bestRule_25 : decode cX9_bestRule 25 = .ok (.invokestatic 47, 3) := by decide +kernel
theorem dX9_bestRule_28 : decode cX9_bestRule 28 = .ok (.ifCond .ne 9, 3) := by decide +kernel
theorem dX9_bestRule_31 : decode cX9_bestRule 31 = .ok (.aload_n 0, 1) := by decide +kernel
theorem dX9_bestRule_32 : decode cX9_bestRule 32 = .ok (.iconst 2, 1) := by decide +kernel
theorem dX9_bestRule_33 : decode cX9_bestRule 33 = .ok (.invokevirtual 60, 3) := by decide +kernel
theorem dX9_bestRule_36 : decode cX9_bestRule 36 = .ok (.ireturn, 1) := by decide +kernel
theorem dX9_bestRule_37 : decode cX9_bestRule 37 = .ok (.iconst 0, 1) := by decide +kernel
theorem dX9_bestRule_38 : decode cX9_bestRule 38 = .ok (.istore_n 3, 1) := by decide +kernel
theorem dX9_bestRule_39 : decode cX9_bestRule 39 = .ok (.lconst 0, 1) := by decide +kernel
theorem dX9_bestRule_40 : decode cX9_bestRule 40 = .ok (.lstore 4, 2) := by decide +kernel
theorem dX9_bestRule_42 : decode cX9_bestRule 42 = .ok (.aload_n 0, 1) := by decide +kernel
theorem dX9_bestRule_43 : decode cX9_bestRule 43 = .ok (.invokevirtual 236, 3) := by decide +kernel
theorem dX9_bestRule_46 : decode cX9_bestRule 46 = .ok (.iconst 0, 1) := by decide +kernel
theorem dX9_bestRule_47 : decode cX9_bestRule 47 = .ok (.istore 6, 2) := by decide +kernel
theorem dX9_bestRule_49 : decode cX9_bestRule 49 = .ok (.iload 6, 2) := by decide +kernel
theorem dX9_bestRule_51 : decode cX9_bestRule 51 = .ok (.iconst 4, 1) := by decide +kernel
theorem dX9_bestRule_52 : decode cX9_bestRule 52 = .ok (.if_icmp .ge 71, 3) := by decide +kernel
theorem dX9_bestRule_55 : decode cX9_bestRule 55 = .ok (.aload_n 0, 1) := by decide +kernel
theorem dX9_bestRule_56 : decode cX9_bestRule 56 = .ok (.getfield 7, 3) := by decide +kernel
theorem dX9_bestRule_59 : decode cX9_bestRule 59 = .ok (.bipush 37, 2) := by decide +kernel
theorem dX9_bestRule_61 : decode cX9_bestRule 61 = .ok (.iload_n 1, 1) := by decide +kernel
theorem dX9_bestRule_62 : decode cX9_bestRule 62 = .ok (.iadd, 1) := by decide +kernel
theorem dX9_bestRule_63 : decode cX9_bestRule 63 = .ok (.iload 6, 2) := by decide +kernel
theorem dX9_bestRule_65 : decode cX9_bestRule 65 = .ok (.i2l, 1) := by decide +kernel
theorem dX9_bestRule_66 : decode cX9_bestRule 66 = .ok (.lastore, 1) := by decide +kernel
theorem dX9_bestRule_67 : decode cX9_bestRule 67 = .ok (.aload_n 0, 1) := by decide +kernel
theorem dX9_bestRule_68 : decode cX9_bestRule 68 = .ok (.iload_n 2, 1) := by decide +kernel
theorem dX9_bestRule_69 : decode cX9_bestRule 69 = .ok (.invokevirtual 191, 3) := by decide +kernel
theorem dX9_bestRule_72 : decode cX9_bestRule 72 = .ok (.istore 7, 2) := by decide +kernel
theorem dX9_bestRule_74 : decode cX9_bestRule 74 = .ok (.aload_n 0, 1) := by decide +kernel
theorem dX9_bestRule_75 : decode cX9_bestRule 75 = .ok (.getfield 7, 3) := by decide +kernel
theorem dX9_bestRule_78 : decode cX9_bestRule 78 = .ok (.sipush 1878, 3) := by decide +kernel
theorem dX9_bestRule_81 : decode cX9_bestRule 81 = .ok (.laload, 1) := by decide +kernel
theorem dX9_bestRule_82 : decode cX9_bestRule 82 = .ok (.aload_n 0, 1) := by decide +kernel
theorem dX9_bestRule_83 : decode cX9_bestRule 83 = .ok (.getfield 16, 3) := by decide +kernel
theorem dX9_bestRule_86 : decode cX9_bestRule 86 = .ok (.sipush 1878, 3) := by decide +kernel
theorem dX9_bestRule_89 : decode cX9_bestRule 89 = .ok (.laload, 1) := by decide +kernel
theorem dX9_bestRule_90 : decode cX9_bestRule 90 = .ok (.lsub, 1) := by decide +kernel
theorem dX9_bestRule_91 : decode cX9_bestRule 91 = .ok (.lstore 8, 2) := by decide +kernel
theorem dX9_bestRule_93 : decode cX9_bestRule 93 = .ok (.aload_n 0, 1) := by decide +kernel
theorem dX9_bestRule_94 : decode cX9_bestRule 94 = .ok (.invokevirtual 239, 3) := by decide +kernel
theorem dX9_bestRule_97 : decode cX9_bestRule 97 = .ok (.iload 6, 2) := by decide +kernel
theorem dX9_bestRule_99 : decode cX9_bestRule 99 = .ok (.ifCond .eq 11, 3) := by decide +kernel
theorem dX9_bestRule_102 : decode cX9_bestRule 102 = .ok (.lload 8, 2) := by decide +kernel
theorem dX9_bestRule_104 : decode cX9_bestRule 104 = .ok (.lload 4, 2) := by decide +kernel
theorem dX9_bestRule_106 : decode cX9_bestRule 106 = .ok (.lcmp, 1) := by decide +kernel
theorem dX9_bestRule_107 : decode cX9_bestRule 107 = .ok (.ifCond .ge 10, 3) := by decide +kernel
theorem dX9_bestRule_110 : decode cX9_bestRule 110 = .ok (.iload 6, 2) := by decide +kernel
theorem dX9_bestRule_112 : decode cX9_bestRule 112 = .ok (.istore_n 3, 1) := by decide +kernel
theorem dX9_bestRule_113 : decode cX9_bestRule 113 = .ok (.lload 8, 2) := by decide +kernel
theorem dX9_bestRule_115 : decode cX9_bestRule 115 = .ok (.lstore 4, 2) := by decide +kernel
theorem dX9_bestRule_117 : decode cX9_bestRule 117 = .ok (.iinc 6 1, 3) := by decide +kernel
theorem dX9_bestRule_120 : decode cX9_bestRule 120 = .ok (.goto (-71), 3) := by decide +kernel
theorem dX9_bestRule_123 : decode cX9_bestRule 123 = .ok (.iload_n 3, 1) := by decide +kernel
theorem dX9_bestRule_124 : decode cX9_bestRule 124 = .ok (.ireturn, 1) := by decide +kernel
set_option maxRecDepth 20000 in
theorem ggX9_quote_X9_isBoat : GoodIn wsX9_quote wsX9_isBoat := goodIn_r _ [7, 8, 9, 10, 6, 11, 21, 22, 23, 24, 25, 26, 27, 28, 29, 30, 31, 32, 33] (by decide +kernel) (by decide +kernel)
set_option maxRecDepth 20000 in
theorem gX9_quote_X9_isBoat : GoodIn wsX9_quote (wsV RX9 198 RX9 yX9_isBoat wsX9_isBoat) := goodIn_app (goodIn_of _ (by decide +kernel)) ggX9_quote_X9_isBoat
set_option maxRecDepth 20000 in
theorem ggX9_quote_X9_refuse : GoodIn wsX9_quote wsX9_refuse := goodIn_r _ [15, 1, 21, 22, 23, 24, 25, 26, 27, 28, 29, 30, 31, 32, 33] (by decide +kernel) (by decide +kernel)
set_option maxRecDepth 20000 in
theorem gX9_quote_X9_refuse : GoodIn wsX9_quote (wsV RX9 60 RX9 yX9_refuse wsX9_refuse) := goodIn_app (goodIn_of _ (by decide +kernel)) ggX9_quote_X9_refuse
set_option maxRecDepth 20000 in
theorem ggX9_quote_X9_in : GoodIn wsX9_quote wsX9_in := goodIn_r _ [11] (by decide +kernel) (by decide +kernel)
set_option maxRecDepth 20000 in
theorem gX9_quote_X9_in : GoodIn wsX9_quote (va_wsS RX9 47 yX9_in wsX9_in) := goodIn_app (goodIn_of _ (by decide +kernel)) ggX9_quote_X9_in
set_option maxRecDepth 20000 in
theorem ggX9_quote_X9_priceOf : GoodIn wsX9_quote wsX9_priceOf := goodIn_r _ [19, 8, 20, 21, 22, 23, 24, 25, 26, 27, 28, 29, 30, 31, 32, 33] (by decide +kernel) (by decide +kernel)
set_option maxRecDepth 20000 in
theorem gX9_quote_X9_priceOf : GoodIn wsX9_quote (wsV RX9 148 RX9 yX9_priceOf wsX9_priceOf) := goodIn_app (goodIn_of _ (by decide +kernel)) ggX9_quote_X9_priceOf
theorem dX9_quote_0 : decode cX9_quote 0 = .ok (.aload_n 0, 1) := by decide +kernel
theorem dX9_quote_1 : decode cX9_quote 1 = .ok (.iconst 0, 1) := by decide +kernel
theorem dX9_quote_2 : decode cX9_quote 2 = .ok (.putfield 43, 3) := by decide +kernel
theorem dX9_quote_5 : decode cX9_quote 5 = .ok (.aload_n 0, 1) := by decide +kernel
theorem dX9_quote_6 : decode cX9_quote 6 = .ok (.iload_n 1, 1) := by decide +kernel
theorem dX9_quote_7 : decode cX9_quote 7 = .ok (.invokevirtual 198, 3) := by decide +kernel
theorem dX9_quote_10 : decode cX9_quote 10 = .ok (.ifCond .ne 9, 3) := by decide +kernel
theorem dX9_quote_13 : decode cX9_quote 13 = .ok (.aload_n 0, 1) := by decide +kernel
theorem dX9_quote_14 : decode cX9_quote 14 = .ok (.iconst 1, 1) := by decide +kernel
theorem dX9_quote_15 : decode cX9_quote 15 = .ok (.invokevirtual 60, 3) := by decide +kernel
theorem dX9_quote_18 : decode cX9_quote 18 = .ok (.ireturn, 1) := by decide +kernel
theorem dX9_quote_19 : decode cX9_quote 19 = .ok (.iload_n 2, 1) := by decide +kernel
theorem dX9_quote_20 : decode cX9_quote 20 = .ok (.i2l, 1) := by decide +kernel
theorem dX9_quote_21 : decode cX9_quote 21 = .ok (.lconst 0, 1) := by decide +kernel
theorem dX9_quote_22 : decode cX9_quote 22 = .ok (.ldc2_w 204, 3) := by decide +kernel
theorem dX9_quote_25 : decode cX9_quote 25 = .ok (.invokestatic 47, 3) := by decide +kernel
theorem dX9_quote_28 : decode cX9_quote 28 = .ok (.ifCond .eq 25, 3) := by decide +kernel
theorem dX9_quote_31 : decode cX9_quote 31 = .ok (.iload_n 3, 1) := by decide +kernel
theorem dX9_quote_32 : decode cX9_quote 32 = .ok (.i2l, 1) := by decide +kernel
theorem dX9_quote_33 : decode cX9_quote 33 = .ok (.lconst 0, 1) := by decide +kernel
theorem dX9_quote_34 : decode cX9_quote 34 = .ok (.lconst 1, 1) := by decide +kernel
theorem dX9_quote_35 : decode cX9_quote 35 = .ok (.invokestatic 47, 3) := by decide +kernel
theorem dX9_quote_38 : decode cX9_quote 38 = .ok (.ifCond .eq 15, 3) := by decide +kernel
theorem dX9_quote_41 : decode cX9_quote 41 = .ok (.aload_n 0, 1) := by decide +kernel
theorem dX9_quote_42 : decode cX9_quote 42 = .ok (.iload_n 1, 1) := by decide +kernel
theorem dX9_quote_43 : decode cX9_quote 43 = .ok (.iload_n 2, 1) := by decide +kernel
theorem dX9_quote_44 : decode cX9_quote 44 = .ok (.i2l, 1) := by decide +kernel
theorem dX9_quote_45 : decode cX9_quote 45 = .ok (.iload_n 3, 1) := by decide +kernel
theorem dX9_quote_46 : decode cX9_quote 46 = .ok (.invokevirtual 148, 3) := by decide +kernel
theorem dX9_quote_49 : decode cX9_quote 49 = .ok (.l2i, 1) := by decide +kernel
theorem dX9_quote_50 : decode cX9_quote 50 = .ok (.goto 8, 3) := by decide +kernel
theorem dX9_quote_53 : decode cX9_quote 53 = .ok (.aload_n 0, 1) := by decide +kernel
theorem dX9_quote_54 : decode cX9_quote 54 = .ok (.iconst 2, 1) := by decide +kernel
theorem dX9_quote_55 : decode cX9_quote 55 = .ok (.invokevirtual 60, 3) := by decide +kernel
theorem dX9_quote_58 : decode cX9_quote 58 = .ok (.ireturn, 1) := by decide +kernel
set_option maxRecDepth 20000 in
theorem ggX9_append_X9_in : GoodIn wsX9_append wsX9_in := goodIn_r _ [9] (by decide +kernel) (by decide +kernel)
set_option maxRecDepth 20000 in
theorem gX9_append_X9_in : GoodIn wsX9_append (va_wsS RX9 47 yX9_in wsX9_in) := goodIn_app (goodIn_of _ (by decide +kernel)) ggX9_append_X9_in
set_option maxRecDepth 20000 in
theorem ggX9_append_X9_refuse : GoodIn wsX9_append wsX9_refuse := goodIn_r _ [13, 1, 14, 15, 16, 17, 18, 19, 20, 21, 22, 23, 24, 25, 26] (by decide +kernel) (by decide +kernel)
set_option maxRecDepth 20000 in
theorem gX9_append_X9_refuse : GoodIn wsX9_append (wsV RX9 60 RX9 yX9_refuse wsX9_refuse) := goodIn_app (goodIn_of _ (by decide +kernel)) ggX9_append_X9_refuse
theorem dX9_append_0 : decode cX9_append 0 = .ok (.aload_n 0, 1) := by decide +kernel
theorem dX9_append_1 : decode cX9_append 1 = .ok (.iconst 0, 1) := by decide +kernel
theorem dX9_append_2 : decode cX9_append 2 = .ok (.putfield 43, 3) := by decide +kernel
theorem dX9_append_5 : decode cX9_append 5 = .ok (.iload_n 1, 1) := by decide +kernel
theorem dX9_append_6 : decode cX9_append 6 = .ok (.i2l, 1) := by decide +kernel
theorem dX9_append_7 : decode cX9_append 7 = .ok (.ldc2_w 242, 3) := by decide +kernel
theorem dX9_append_10 : decode cX9_append 10 = .ok (.ldc2_w 244, 3) := by decide +kernel
theorem dX9_append_13 : decode cX9_append 13 = .ok (.invokestatic 47, 3) := by decide +kernel
theorem dX9_append_16 : decode cX9_append 16 = .ok (.ifCond .ne 9, 3) := by decide +kernel
theorem dX9_append_19 : decode cX9_append 19 = .ok (.aload_n 0, 1) := by decide +kernel
theorem dX9_append_20 : decode cX9_append 20 = .ok (.iconst 1, 1) := by decide +kernel
theorem dX9_append_21 : decode cX9_append 21 = .ok (.invokevirtual 60, 3) := by decide +kernel
theorem dX9_append_24 : decode cX9_append 24 = .ok (.ireturn, 1) := by decide +kernel
theorem dX9_append_25 : decode cX9_append 25 = .ok (.aload_n 0, 1) := by decide +kernel
theorem dX9_append_26 : decode cX9_append 26 = .ok (.getfield 246, 3) := by decide +kernel
theorem dX9_append_29 : decode cX9_append 29 = .ok (.bipush 120, 2) := by decide +kernel
theorem dX9_append_31 : decode cX9_append 31 = .ok (.if_icmp .ne 9, 3) := by decide +kernel
theorem dX9_append_34 : decode cX9_append 34 = .ok (.aload_n 0, 1) := by decide +kernel
theorem dX9_append_35 : decode cX9_append 35 = .ok (.iconst 2, 1) := by decide +kernel
theorem dX9_append_36 : decode cX9_append 36 = .ok (.invokevirtual 60, 3) := by decide +kernel
theorem dX9_append_39 : decode cX9_append 39 = .ok (.ireturn, 1) := by decide +kernel
theorem dX9_append_40 : decode cX9_append 40 = .ok (.aload_n 0, 1) := by decide +kernel
theorem dX9_append_41 : decode cX9_append 41 = .ok (.getfield 23, 3) := by decide +kernel
theorem dX9_append_44 : decode cX9_append 44 = .ok (.aload_n 0, 1) := by decide +kernel
theorem dX9_append_45 : decode cX9_append 45 = .ok (.getfield 246, 3) := by decide +kernel
theorem dX9_append_48 : decode cX9_append 48 = .ok (.iload_n 1, 1) := by decide +kernel
theorem dX9_append_49 : decode cX9_append 49 = .ok (.iastore, 1) := by decide +kernel
theorem dX9_append_50 : decode cX9_append 50 = .ok (.aload_n 0, 1) := by decide +kernel
theorem dX9_append_51 : decode cX9_append 51 = .ok (.dup, 1) := by decide +kernel
theorem dX9_append_52 : decode cX9_append 52 = .ok (.getfield 246, 3) := by decide +kernel
theorem dX9_append_55 : decode cX9_append 55 = .ok (.iconst 1, 1) := by decide +kernel
theorem dX9_append_56 : decode cX9_append 56 = .ok (.iadd, 1) := by decide +kernel
theorem dX9_append_57 : decode cX9_append 57 = .ok (.putfield 246, 3) := by decide +kernel
theorem dX9_append_60 : decode cX9_append 60 = .ok (.aload_n 0, 1) := by decide +kernel
theorem dX9_append_61 : decode cX9_append 61 = .ok (.getfield 246, 3) := by decide +kernel
theorem dX9_append_64 : decode cX9_append 64 = .ok (.ireturn, 1) := by decide +kernel
theorem dX9_clear_0 : decode cX9_clear 0 = .ok (.aload_n 0, 1) := by decide +kernel
theorem dX9_clear_1 : decode cX9_clear 1 = .ok (.iconst 0, 1) := by decide +kernel
theorem dX9_clear_2 : decode cX9_clear 2 = .ok (.putfield 43, 3) := by decide +kernel
theorem dX9_clear_5 : decode cX9_clear 5 = .ok (.aload_n 0, 1) := by decide +kernel
theorem dX9_clear_6 : decode cX9_clear 6 = .ok (.getfield 246, 3) := by decide +kernel
theorem dX9_clear_9 : decode cX9_clear 9 = .ok (.istore_n 1, 1) := by decide +kernel
theorem dX9_clear_10 : decode cX9_clear 10 = .ok (.aload_n 0, 1) := by decide +kernel
theorem dX9_clear_11 : decode cX9_clear 11 = .ok (.iconst 0, 1) := by decide +kernel
theorem dX9_clear_12 : decode cX9_clear 12 = .ok (.putfield 246, 3) := by decide +kernel
theorem dX9_clear_15 : decode cX9_clear 15 = .ok (.iload_n 1, 1) := by decide +kernel
theorem dX9_clear_16 : decode cX9_clear 16 = .ok (.ireturn, 1) := by decide +kernel
theorem dX9_needs_0 : decode cX9_needs 0 = .ok (.aload_n 0, 1) := by decide +kernel
theorem dX9_needs_1 : decode cX9_needs 1 = .ok (.getfield 249, 3) := by decide +kernel
theorem dX9_needs_4 : decode cX9_needs 4 = .ok (.bipush 104, 2) := by decide +kernel
theorem dX9_needs_6 : decode cX9_needs 6 = .ok (.if_icmp .ne 7, 3) := by decide +kernel
theorem dX9_needs_9 : decode cX9_needs 9 = .ok (.iconst 1, 1) := by decide +kernel
theorem dX9_needs_10 : decode cX9_needs 10 = .ok (.goto 17, 3) := by decide +kernel
theorem dX9_needs_13 : decode cX9_needs 13 = .ok (.aload_n 0, 1) := by decide +kernel
theorem dX9_needs_14 : decode cX9_needs 14 = .ok (.getfield 249, 3) := by decide +kernel
theorem dX9_needs_17 : decode cX9_needs 17 = .ok (.bipush 111, 2) := by decide +kernel
theorem dX9_needs_19 : decode cX9_needs 19 = .ok (.if_icmp .ne 7, 3) := by decide +kernel
theorem dX9_needs_22 : decode cX9_needs 22 = .ok (.iconst 3, 1) := by decide +kernel
theorem dX9_needs_23 : decode cX9_needs 23 = .ok (.goto 4, 3) := by decide +kernel
theorem dX9_needs_26 : decode cX9_needs 26 = .ok (.iconst 2, 1) := by decide +kernel
theorem dX9_needs_27 : decode cX9_needs 27 = .ok (.ireturn, 1) := by decide +kernel
set_option maxRecDepth 20000 in
theorem ggX9_readOne_X9_in : GoodIn wsX9_readOne wsX9_in := goodIn_r _ [11] (by decide +kernel) (by decide +kernel)
set_option maxRecDepth 20000 in
theorem gX9_readOne_X9_in : GoodIn wsX9_readOne (va_wsS RX9 47 yX9_in wsX9_in) := goodIn_app (goodIn_of _ (by decide +kernel)) ggX9_readOne_X9_in
set_option maxRecDepth 20000 in
theorem ggX9_readOne_X9_needs : GoodIn wsX9_readOne wsX9_needs := goodIn_r _ [15, 1, 16, 17, 18, 19, 20, 21, 22, 23, 24, 25, 26, 27, 28] (by decide +kernel) (by decide +kernel)
set_option maxRecDepth 20000 in
theorem gX9_readOne_X9_needs : GoodIn wsX9_readOne (wsV RX9 264 RX9 yX9_needs wsX9_needs) := goodIn_app (goodIn_of _ (by decide +kernel)) ggX9_readOne_X9_needs
theorem dX9_readOne_0 : decode cX9_readOne 0 = .ok (.aload_n 0, 1) := by decide +kernel
theorem dX9_readOne_1 : decode cX9_readOne 1 = .ok (.getfield 249, 3) := by decide +kernel
theorem dX9_readOne_4 : decode cX9_readOne 4 = .ok (.ifCond .ne 77, 3) := by decide +kernel
theorem dX9_readOne_7 : decode cX9_readOne 7 = .ok (.iload_n 1, 1) := by decide +kernel
theorem dX9_readOne_8 : decode cX9_readOne 8 = .ok (.bipush 104, 2) := by decide +kernel
theorem dX9_readOne_10 : decode cX9_readOne 10 = .ok (.if_icmp .eq 27, 3) := by decide +kernel
theorem dX9_readOne_13 : decode cX9_readOne 13 = .ok (.iload_n 1, 1) := by decide +kernel
theorem dX9_readOne_14 : decode cX9_readOne 14 = .ok (.bipush 111, 2) := by decide +kernel
theorem dX9_readOne_16 : decode cX9_readOne 16 = .ok (.if_icmp .eq 21, 3) := by decide +kernel
theorem dX9_readOne_19 : decode cX9_readOne 19 = .ok (.iload_n 1, 1) := by decide +kernel
theorem dX9_readOne_20 : decode cX9_readOne 20 = .ok (.bipush 99, 2) := by decide +kernel
theorem dX9_readOne_22 : decode cX9_readOne 22 = .ok (.if_icmp .eq 15, 3) := by decide +kernel
theorem dX9_readOne_25 : decode cX9_readOne 25 = .ok (.iload_n 1, 1) := by decide +kernel
theorem dX9_readOne_26 : decode cX9_readOne 26 = .ok (.bipush 112, 2) := by decide +kernel
theorem dX9_readOne_28 : decode cX9_readOne 28 = .ok (.if_icmp .eq 9, 3) := by decide +kernel
theorem dX9_readOne_31 : decode cX9_readOne 31 = .ok (.iload_n 1, 1) := by decide +kernel
theorem dX9_readOne_32 : decode cX9_readOne 32 = .ok (.bipush 109, 2) := by decide +kernel
theorem dX9_readOne_34 : decode cX9_readOne 34 = .ok (.if_icmp .ne 7, 3) := by decide +kernel
theorem dX9_readOne_37 : decode cX9_readOne 37 = .ok (.iconst 1, 1) := by decide +kernel
theorem dX9_readOne_38 : decode cX9_readOne 38 = .ok (.goto 4, 3) := by decide +kernel
theorem dX9_readOne_41 : decode cX9_readOne 41 = .ok (.iconst 0, 1) := by decide +kernel
theorem dX9_readOne_42 : decode cX9_readOne 42 = .ok (.istore_n 2, 1) := by decide +kernel
theorem dX9_readOne_43 : decode cX9_readOne 43 = .ok (.aload_n 0, 1) := by decide +kernel
theorem dX9_readOne_44 : decode cX9_readOne 44 = .ok (.iload_n 2, 1) := by decide +kernel
theorem dX9_readOne_45 : decode cX9_readOne 45 = .ok (.ifCond .eq 7, 3) := by decide +kernel
theorem dX9_readOne_48 : decode cX9_readOne 48 = .ok (.iload_n 1, 1) := by decide +kernel
theorem dX9_readOne_49 : decode cX9_readOne 49 = .ok (.goto 4, 3) := by decide +kernel
theorem dX9_readOne_52 : decode cX9_readOne 52 = .ok (.iconst 0, 1) := by decide +kernel
theorem dX9_readOne_53 : decode cX9_readOne 53 = .ok (.putfield 249, 3) := by decide +kernel
theorem dX9_readOne_56 : decode cX9_readOne 56 = .ok (.aload_n 0, 1) := by decide +kernel
theorem dX9_readOne_57 : decode cX9_readOne 57 = .ok (.iconst 0, 1) := by decide +kernel
theorem dX9_readOne_58 : decode cX9_readOne 58 = .ok (.putfield 252, 3) := by decide +kernel
theorem dX9_readOne_61 : decode cX9_readOne 61 = .ok (.aload_n 0, 1) := by decide +kernel
theorem dX9_readOne_62 : decode cX9_readOne 62 = .ok (.iconst 0, 1) := by decide +kernel
theorem dX9_readOne_63 : decode cX9_readOne 63 = .ok (.putfield 255, 3) := by decide +kernel
theorem dX9_readOne_66 : decode cX9_readOne 66 = .ok (.aload_n 0, 1) := by decide +kernel
theorem dX9_readOne_67 : decode cX9_readOne 67 = .ok (.iconst 0, 1) := by decide +kernel
theorem dX9_readOne_68 : decode cX9_readOne 68 = .ok (.putfield 258, 3) := by decide +kernel
theorem dX9_readOne_71 : decode cX9_readOne 71 = .ok (.iload_n 2, 1) := by decide +kernel
theorem dX9_readOne_72 : decode cX9_readOne 72 = .ok (.ifCond .eq 7, 3) := by decide +kernel
theorem dX9_readOne_75 : decode cX9_readOne 75 = .ok (.iconst 0, 1) := by decide +kernel
theorem dX9_readOne_76 : decode cX9_readOne 76 = .ok (.goto 4, 3) := by decide +kernel
theorem dX9_readOne_79 : decode cX9_readOne 79 = .ok (.iconst 1, 1) := by decide +kernel
theorem dX9_readOne_80 : decode cX9_readOne 80 = .ok (.ireturn, 1) := by decide +kernel
theorem dX9_readOne_81 : decode cX9_readOne 81 = .ok (.iload_n 1, 1) := by decide +kernel
theorem dX9_readOne_82 : decode cX9_readOne 82 = .ok (.i2l, 1) := by decide +kernel
theorem dX9_readOne_83 : decode cX9_readOne 83 = .ok (.ldc2_w 181, 3) := by decide +kernel
theorem dX9_readOne_86 : decode cX9_readOne 86 = .ok (.ldc2_w 262, 3) := by decide +kernel
theorem dX9_readOne_89 : decode cX9_readOne 89 = .ok (.invokestatic 47, 3) := by decide +kernel
theorem dX9_readOne_92 : decode cX9_readOne 92 = .ok (.ifCond .eq 75, 3) := by decide +kernel
theorem dX9_readOne_95 : decode cX9_readOne 95 = .ok (.aload_n 0, 1) := by decide +kernel
theorem dX9_readOne_96 : decode cX9_readOne 96 = .ok (.getfield 258, 3) := by decide +kernel
theorem dX9_readOne_99 : decode cX9_readOne 99 = .ok (.ifCond .ne 68, 3) := by decide +kernel
theorem dX9_readOne_102 : decode cX9_readOne 102 = .ok (.aload_n 0, 1) := by decide +kernel
theorem dX9_readOne_103 : decode cX9_readOne 103 = .ok (.getfield 26, 3) := by decide +kernel
theorem dX9_readOne_106 : decode cX9_readOne 106 = .ok (.aload_n 0, 1) := by decide +kernel
theorem dX9_readOne_107 : decode cX9_readOne 107 = .ok (.getfield 252, 3) := by decide +kernel
theorem dX9_readOne_110 : decode cX9_readOne 110 = .ok (.aload_n 0, 1) := by decide +kernel
theorem dX9_readOne_111 : decode cX9_readOne 111 = .ok (.getfield 255, 3) := by decide +kernel
theorem dX9_readOne_114 : decode cX9_readOne 114 = .ok (.ifCond .ne 10, 3) := by decide +kernel
theorem dX9_readOne_117 : decode cX9_readOne 117 = .ok (.iload_n 1, 1) := by decide +kernel
theorem dX9_readOne_118 : decode cX9_readOne 118 = .ok (.bipush 48, 2) := by decide +kernel
theorem dX9_readOne_120 : decode cX9_readOne 120 = .ok (.isub, 1) := by decide +kernel
theorem dX9_readOne_121 : decode cX9_readOne 121 = .ok (.goto 20, 3) := by decide +kernel
theorem dX9_readOne_124 : decode cX9_readOne 124 = .ok (.bipush 10, 2) := by decide +kernel
theorem dX9_readOne_126 : decode cX9_readOne 126 = .ok (.aload_n 0, 1) := by decide +kernel
theorem dX9_readOne_127 : decode cX9_readOne 127 = .ok (.getfield 26, 3) := by decide +kernel
theorem dX9_readOne_130 : decode cX9_readOne 130 = .ok (.aload_n 0, 1) := by decide +kernel
theorem dX9_readOne_131 : decode cX9_readOne 131 = .ok (.getfield 252, 3) := by decide +kernel
theorem dX9_readOne_134 : decode cX9_readOne 134 = .ok (.iaload, 1) := by decide +kernel
theorem dX9_readOne_135 : decode cX9_readOne 135 = .ok (.imul, 1) := by decide +kernel
theorem dX9_readOne_136 : decode cX9_readOne 136 = .ok (.iload_n 1, 1) := by decide +kernel
theorem dX9_readOne_137 : decode cX9_readOne 137 = .ok (.iadd, 1) := by decide +kernel
theorem dX9_readOne_138 : decode cX9_readOne 138 = .ok (.bipush 48, 2) := by decide +kernel
theorem dX9_readOne_140 : decode cX9_readOne 140 = .ok (.isub, 1) := by decide +kernel
theorem dX9_readOne_141 : decode cX9_readOne 141 = .ok (.iastore, 1) := by decide +kernel
theorem dX9_readOne_142 : decode cX9_readOne 142 = .ok (.aload_n 0, 1) := by decide +kernel
theorem dX9_readOne_143 : decode cX9_readOne 143 = .ok (.dup, 1) := by decide +kernel
theorem dX9_readOne_144 : decode cX9_readOne 144 = .ok (.getfield 255, 3) := by decide +kernel
theorem dX9_readOne_147 : decode cX9_readOne 147 = .ok (.iconst 1, 1) := by decide +kernel
theorem dX9_readOne_148 : decode cX9_readOne 148 = .ok (.iadd, 1) := by decide +kernel
theorem dX9_readOne_149 : decode cX9_readOne 149 = .ok (.putfield 255, 3) := by decide +kernel
theorem dX9_readOne_152 : decode cX9_readOne 152 = .ok (.aload_n 0, 1) := by decide +kernel
theorem dX9_readOne_153 : decode cX9_readOne 153 = .ok (.getfield 255, 3) := by decide +kernel
theorem dX9_readOne_156 : decode cX9_readOne 156 = .ok (.bipush 6, 2) := by decide +kernel
theorem dX9_readOne_158 : decode cX9_readOne 158 = .ok (.if_icmp .le 7, 3) := by decide +kernel
theorem dX9_readOne_161 : decode cX9_readOne 161 = .ok (.iconst 2, 1) := by decide +kernel
theorem dX9_readOne_162 : decode cX9_readOne 162 = .ok (.goto 4, 3) := by decide +kernel
theorem dX9_readOne_165 : decode cX9_readOne 165 = .ok (.iconst 0, 1) := by decide +kernel
theorem dX9_readOne_166 : decode cX9_readOne 166 = .ok (.ireturn, 1) := by decide +kernel
theorem dX9_readOne_167 : decode cX9_readOne 167 = .ok (.aload_n 0, 1) := by decide +kernel
theorem dX9_readOne_168 : decode cX9_readOne 168 = .ok (.getfield 255, 3) := by decide +kernel
theorem dX9_readOne_171 : decode cX9_readOne 171 = .ok (.ifCond .ne 5, 3) := by decide +kernel
theorem dX9_readOne_174 : decode cX9_readOne 174 = .ok (.iconst 1, 1) := by decide +kernel
theorem dX9_readOne_175 : decode cX9_readOne 175 = .ok (.ireturn, 1) := by decide +kernel
theorem dX9_readOne_176 : decode cX9_readOne 176 = .ok (.iload_n 1, 1) := by decide +kernel
theorem dX9_readOne_177 : decode cX9_readOne 177 = .ok (.bipush 44, 2) := by decide +kernel
theorem dX9_readOne_179 : decode cX9_readOne 179 = .ok (.if_icmp .ne 33, 3) := by decide +kernel
theorem dX9_readOne_182 : decode cX9_readOne 182 = .ok (.aload_n 0, 1) := by decide +kernel
theorem dX9_readOne_183 : decode cX9_readOne 183 = .ok (.getfield 252, 3) := by decide +kernel
theorem dX9_readOne_186 : decode cX9_readOne 186 = .ok (.iconst 1, 1) := by decide +kernel
theorem dX9_readOne_187 : decode cX9_readOne 187 = .ok (.iadd, 1) := by decide +kernel
theorem dX9_readOne_188 : decode cX9_readOne 188 = .ok (.aload_n 0, 1) := by decide +kernel
theorem dX9_readOne_189 : decode cX9_readOne 189 = .ok (.invokevirtual 264, 3) := by decide +kernel
theorem dX9_readOne_192 : decode cX9_readOne 192 = .ok (.if_icmp .ge 20, 3) := by decide +kernel
theorem dX9_readOne_195 : decode cX9_readOne 195 = .ok (.aload_n 0, 1) := by decide +kernel
theorem dX9_readOne_196 : decode cX9_readOne 196 = .ok (.dup, 1) := by decide +kernel
theorem dX9_readOne_197 : decode cX9_readOne 197 = .ok (.getfield 252, 3) := by decide +kernel
theorem dX9_readOne_200 : decode cX9_readOne 200 = .ok (.iconst 1, 1) := by decide +kernel
theorem dX9_readOne_201 : decode cX9_readOne 201 = .ok (.iadd, 1) := by decide +kernel
theorem dX9_readOne_202 : decode cX9_readOne 202 = .ok (.putfield 252, 3) := by decide +kernel
theorem dX9_readOne_205 : decode cX9_readOne 205 = .ok (.aload_n 0, 1) := by decide +kernel
theorem dX9_readOne_206 : decode cX9_readOne 206 = .ok (.iconst 0, 1) := by decide +kernel
theorem dX9_readOne_207 : decode cX9_readOne 207 = .ok (.putfield 255, 3) := by decide +kernel
theorem dX9_readOne_210 : decode cX9_readOne 210 = .ok (.iconst 0, 1) := by decide +kernel
theorem dX9_readOne_211 : decode cX9_readOne 211 = .ok (.ireturn, 1) := by decide +kernel
theorem dX9_readOne_212 : decode cX9_readOne 212 = .ok (.iload_n 1, 1) := by decide +kernel
theorem dX9_readOne_213 : decode cX9_readOne 213 = .ok (.bipush 33, 2) := by decide +kernel
theorem dX9_readOne_215 : decode cX9_readOne 215 = .ok (.if_icmp .ne 34, 3) := by decide +kernel
theorem dX9_readOne_218 : decode cX9_readOne 218 = .ok (.aload_n 0, 1) := by decide +kernel
theorem dX9_readOne_219 : decode cX9_readOne 219 = .ok (.getfield 249, 3) := by decide +kernel
theorem dX9_readOne_222 : decode cX9_readOne 222 = .ok (.bipush 111, 2) := by decide +kernel
theorem dX9_readOne_224 : decode cX9_readOne 224 = .ok (.if_icmp .ne 25, 3) := by decide +kernel
theorem dX9_readOne_227 : decode cX9_readOne 227 = .ok (.aload_n 0, 1) := by decide +kernel
theorem dX9_readOne_228 : decode cX9_readOne 228 = .ok (.getfield 252, 3) := by decide +kernel
theorem dX9_readOne_231 : decode cX9_readOne 231 = .ok (.iconst 2, 1) := by decide +kernel
theorem dX9_readOne_232 : decode cX9_readOne 232 = .ok (.if_icmp .ne 17, 3) := by decide +kernel
theorem dX9_readOne_235 : decode cX9_readOne 235 = .ok (.aload_n 0, 1) := by decide +kernel
theorem dX9_readOne_236 : decode cX9_readOne 236 = .ok (.getfield 258, 3) := by decide +kernel
theorem dX9_readOne_239 : decode cX9_readOne 239 = .ok (.ifCond .ne 10, 3) := by decide +kernel
theorem dX9_readOne_242 : decode cX9_readOne 242 = .ok (.aload_n 0, 1) := by decide +kernel
theorem dX9_readOne_243 : decode cX9_readOne 243 = .ok (.iconst 1, 1) := by decide +kernel
theorem dX9_readOne_244 : decode cX9_readOne 244 = .ok (.putfield 258, 3) := by decide +kernel
theorem dX9_readOne_247 : decode cX9_readOne 247 = .ok (.iconst 0, 1) := by decide +kernel
theorem dX9_readOne_248 : decode cX9_readOne 248 = .ok (.ireturn, 1) := by decide +kernel
theorem dX9_readOne_249 : decode cX9_readOne 249 = .ok (.iload_n 1, 1) := by decide +kernel
theorem dX9_readOne_250 : decode cX9_readOne 250 = .ok (.bipush 59, 2) := by decide +kernel
theorem dX9_readOne_252 : decode cX9_readOne 252 = .ok (.if_icmp .ne 20, 3) := by decide +kernel
theorem dX9_readOne_255 : decode cX9_readOne 255 = .ok (.aload_n 0, 1) := by decide +kernel
theorem dX9_readOne_256 : decode cX9_readOne 256 = .ok (.getfield 252, 3) := by decide +kernel
theorem dX9_readOne_259 : decode cX9_readOne 259 = .ok (.iconst 1, 1) := by decide +kernel
theorem dX9_readOne_260 : decode cX9_readOne 260 = .ok (.iadd, 1) := by decide +kernel
theorem dX9_readOne_261 : decode cX9_readOne 261 = .ok (.aload_n 0, 1) := by decide +kernel
theorem dX9_readOne_262 : decode cX9_readOne 262 = .ok (.invokevirtual 264, 3) := by decide +kernel
theorem dX9_readOne_265 : decode cX9_readOne 265 = .ok (.if_icmp .ne 7, 3) := by decide +kernel
theorem dX9_readOne_268 : decode cX9_readOne 268 = .ok (.iconst 0, 1) := by decide +kernel
theorem dX9_readOne_269 : decode cX9_readOne 269 = .ok (.goto 4, 3) := by decide +kernel
theorem dX9_readOne_272 : decode cX9_readOne 272 = .ok (.iconst 1, 1) := by decide +kernel
theorem dX9_readOne_273 : decode cX9_readOne 273 = .ok (.ireturn, 1) := by decide +kernel
set_option maxRecDepth 20000 in
theorem ggX9_ends_X9_needs : GoodIn wsX9_ends wsX9_needs := goodIn_r _ [8, 1, 9, 10, 11, 12, 13, 14, 15, 16, 17, 18, 19, 20, 21] (by decide +kernel) (by decide +kernel)
set_option maxRecDepth 20000 in
theorem gX9_ends_X9_needs : GoodIn wsX9_ends (wsV RX9 264 RX9 yX9_needs wsX9_needs) := goodIn_app (goodIn_of _ (by decide +kernel)) ggX9_ends_X9_needs
