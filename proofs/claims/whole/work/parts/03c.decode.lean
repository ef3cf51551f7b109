theorem dX7_init_0 : decode cX7_init 0 = .ok (.aload_n 0, 1) := by decide +kernel
theorem dX7_init_1 : decode cX7_init 1 = .ok (.invokespecial 1, 3) := by decide +kernel
theorem dX7_init_4 : decode cX7_init 4 = .ok (.aload_n 0, 1) := by decide +kernel
theorem dX7_init_5 : decode cX7_init 5 = .ok (.bipush 12, 2) := by decide +kernel
theorem dX7_init_7 : decode cX7_init 7 = .ok (.newarray .int, 2) := by decide +kernel
theorem dX7_init_9 : decode cX7_init 9 = .ok (.putfield 7, 3) := by decide +kernel
theorem dX7_init_12 : decode cX7_init 12 = .ok (.aload_n 0, 1) := by decide +kernel
theorem dX7_init_13 : decode cX7_init 13 = .ok (.bipush 60, 2) := by decide +kernel
theorem dX7_init_15 : decode cX7_init 15 = .ok (.newarray .int, 2) := by decide +kernel
theorem dX7_init_17 : decode cX7_init 17 = .ok (.putfield 13, 3) := by decide +kernel
theorem dX7_init_20 : decode cX7_init 20 = .ok (.aload_n 0, 1) := by decide +kernel
theorem dX7_init_21 : decode cX7_init 21 = .ok (.sipush 1024, 3) := by decide +kernel
theorem dX7_init_24 : decode cX7_init 24 = .ok (.newarray .int, 2) := by decide +kernel
theorem dX7_init_26 : decode cX7_init 26 = .ok (.putfield 16, 3) := by decide +kernel
theorem dX7_init_29 : decode cX7_init 29 = .ok (.aload_n 0, 1) := by decide +kernel
theorem dX7_init_30 : decode cX7_init 30 = .ok (.sipush 1024, 3) := by decide +kernel
theorem dX7_init_33 : decode cX7_init 33 = .ok (.newarray .boolean, 2) := by decide +kernel
theorem dX7_init_35 : decode cX7_init 35 = .ok (.putfield 19, 3) := by decide +kernel
theorem dX7_init_38 : decode cX7_init 38 = .ok (.aload_n 0, 1) := by decide +kernel
theorem dX7_init_39 : decode cX7_init 39 = .ok (.sipush 1024, 3) := by decide +kernel
theorem dX7_init_42 : decode cX7_init 42 = .ok (.newarray .boolean, 2) := by decide +kernel
theorem dX7_init_44 : decode cX7_init 44 = .ok (.putfield 23, 3) := by decide +kernel
theorem dX7_init_47 : decode cX7_init 47 = .ok (.aload_n 0, 1) := by decide +kernel
theorem dX7_init_48 : decode cX7_init 48 = .ok (.sipush 1024, 3) := by decide +kernel
theorem dX7_init_51 : decode cX7_init 51 = .ok (.newarray .long, 2) := by decide +kernel
theorem dX7_init_53 : decode cX7_init 53 = .ok (.putfield 26, 3) := by decide +kernel
theorem dX7_init_56 : decode cX7_init 56 = .ok (.aload_n 0, 1) := by decide +kernel
theorem dX7_init_57 : decode cX7_init 57 = .ok (.iconst 4, 1) := by decide +kernel
theorem dX7_init_58 : decode cX7_init 58 = .ok (.newarray .int, 2) := by decide +kernel
theorem dX7_init_60 : decode cX7_init 60 = .ok (.putfield 30, 3) := by decide +kernel
theorem dX7_init_63 : decode cX7_init 63 = .ok (.aload_n 0, 1) := by decide +kernel
theorem dX7_init_64 : decode cX7_init 64 = .ok (.iconst 4, 1) := by decide +kernel
theorem dX7_init_65 : decode cX7_init 65 = .ok (.newarray .int, 2) := by decide +kernel
theorem dX7_init_67 : decode cX7_init 67 = .ok (.putfield 33, 3) := by decide +kernel
theorem dX7_init_70 : decode cX7_init 70 = .ok (.aload_n 0, 1) := by decide +kernel
theorem dX7_init_71 : decode cX7_init 71 = .ok (.iconst 4, 1) := by decide +kernel
theorem dX7_init_72 : decode cX7_init 72 = .ok (.newarray .int, 2) := by decide +kernel
theorem dX7_init_74 : decode cX7_init 74 = .ok (.putfield 36, 3) := by decide +kernel
theorem dX7_init_77 : decode cX7_init 77 = .ok (.aload_n 0, 1) := by decide +kernel
theorem dX7_init_78 : decode cX7_init 78 = .ok (.bipush 12, 2) := by decide +kernel
theorem dX7_init_80 : decode cX7_init 80 = .ok (.newarray .boolean, 2) := by decide +kernel
theorem dX7_init_82 : decode cX7_init 82 = .ok (.putfield 39, 3) := by decide +kernel
theorem dX7_init_85 : decode cX7_init 85 = .ok (.aload_n 0, 1) := by decide +kernel
theorem dX7_init_86 : decode cX7_init 86 = .ok (.bipush 12, 2) := by decide +kernel
theorem dX7_init_88 : decode cX7_init 88 = .ok (.newarray .int, 2) := by decide +kernel
theorem dX7_init_90 : decode cX7_init 90 = .ok (.putfield 42, 3) := by decide +kernel
theorem dX7_init_93 : decode cX7_init 93 = .ok (.aload_n 0, 1) := by decide +kernel
theorem dX7_init_94 : decode cX7_init 94 = .ok (.sipush 12288, 3) := by decide +kernel
theorem dX7_init_97 : decode cX7_init 97 = .ok (.newarray .int, 2) := by decide +kernel
theorem dX7_init_99 : decode cX7_init 99 = .ok (.putfield 45, 3) := by decide +kernel
theorem dX7_init_102 : decode cX7_init 102 = .ok (.aload_n 0, 1) := by decide +kernel
theorem dX7_init_103 : decode cX7_init 103 = .ok (.bipush 12, 2) := by decide +kernel
theorem dX7_init_105 : decode cX7_init 105 = .ok (.newarray .long, 2) := by decide +kernel
theorem dX7_init_107 : decode cX7_init 107 = .ok (.putfield 48, 3) := by decide +kernel
theorem dX7_init_110 : decode cX7_init 110 = .ok (.aload_n 0, 1) := by decide +kernel
theorem dX7_init_111 : decode cX7_init 111 = .ok (.bipush 12, 2) := by decide +kernel
theorem dX7_init_113 : decode cX7_init 113 = .ok (.newarray .int, 2) := by decide +kernel
theorem dX7_init_115 : decode cX7_init 115 = .ok (.putfield 51, 3) := by decide +kernel
theorem dX7_init_118 : decode cX7_init 118 = .ok (.aload_n 0, 1) := by decide +kernel
theorem dX7_init_119 : decode cX7_init 119 = .ok (.bipush 12, 2) := by decide +kernel
theorem dX7_init_121 : decode cX7_init 121 = .ok (.newarray .int, 2) := by decide +kernel
theorem dX7_init_123 : decode cX7_init 123 = .ok (.putfield 54, 3) := by decide +kernel
theorem dX7_init_126 : decode cX7_init 126 = .ok (.aload_n 0, 1) := by decide +kernel
theorem dX7_init_127 : decode cX7_init 127 = .ok (.sipush 1024, 3) := by decide +kernel
theorem dX7_init_130 : decode cX7_init 130 = .ok (.newarray .long, 2) := by decide +kernel
theorem dX7_init_132 : decode cX7_init 132 = .ok (.putfield 57, 3) := by decide +kernel
theorem dX7_init_135 : decode cX7_init 135 = .ok (.aload_n 0, 1) := by decide +kernel
theorem dX7_init_136 : decode cX7_init 136 = .ok (.sipush 1024, 3) := by decide +kernel
theorem dX7_init_139 : decode cX7_init 139 = .ok (.newarray .boolean, 2) := by decide +kernel
theorem dX7_init_141 : decode cX7_init 141 = .ok (.putfield 60, 3) := by decide +kernel
theorem dX7_init_144 : decode cX7_init 144 = .ok (.aload_n 0, 1) := by decide +kernel
theorem dX7_init_145 : decode cX7_init 145 = .ok (.bipush 12, 2) := by decide +kernel
theorem dX7_init_147 : decode cX7_init 147 = .ok (.newarray .int, 2) := by decide +kernel
theorem dX7_init_149 : decode cX7_init 149 = .ok (.putfield 63, 3) := by decide +kernel
theorem dX7_init_152 : decode cX7_init 152 = .ok (.aload_n 0, 1) := by decide +kernel
theorem dX7_init_153 : decode cX7_init 153 = .ok (.iload_n 1, 1) := by decide +kernel
theorem dX7_init_154 : decode cX7_init 154 = .ok (.iconst 1, 1) := by decide +kernel
theorem dX7_init_155 : decode cX7_init 155 = .ok (.if_icmp .ge 7, 3) := by decide +kernel
theorem dX7_init_158 : decode cX7_init 158 = .ok (.iconst 1, 1) := by decide +kernel
theorem dX7_init_159 : decode cX7_init 159 = .ok (.goto 15, 3) := by decide +kernel
theorem dX7_init_162 : decode cX7_init 162 = .ok (.iload_n 1, 1) := by decide +kernel
theorem dX7_init_163 : decode cX7_init 163 = .ok (.bipush 16, 2) := by decide +kernel
theorem dX7_init_165 : decode cX7_init 165 = .ok (.if_icmp .le 8, 3) := by decide +kernel
theorem dX7_init_168 : decode cX7_init 168 = .ok (.bipush 16, 2) := by decide +kernel
theorem dX7_init_170 : decode cX7_init 170 = .ok (.goto 4, 3) := by decide +kernel
theorem dX7_init_173 : decode cX7_init 173 = .ok (.iload_n 1, 1) := by decide +kernel
theorem dX7_init_174 : decode cX7_init 174 = .ok (.putfield 66, 3) := by decide +kernel
theorem dX7_init_177 : decode cX7_init 177 = .ok (.aload_n 0, 1) := by decide +kernel
theorem dX7_init_178 : decode cX7_init 178 = .ok (.iload_n 2, 1) := by decide +kernel
theorem dX7_init_179 : decode cX7_init 179 = .ok (.iconst 1, 1) := by decide +kernel
theorem dX7_init_180 : decode cX7_init 180 = .ok (.if_icmp .ge 7, 3) := by decide +kernel
theorem dX7_init_183 : decode cX7_init 183 = .ok (.iconst 1, 1) := by decide +kernel
theorem dX7_init_184 : decode cX7_init 184 = .ok (.goto 15, 3) := by decide +kernel
theorem dX7_init_187 : decode cX7_init 187 = .ok (.iload_n 2, 1) := by decide +kernel
theorem dX7_init_188 : decode cX7_init 188 = .ok (.bipush 16, 2) := by decide +kernel
theorem dX7_init_190 : decode cX7_init 190 = .ok (.if_icmp .le 8, 3) := by decide +kernel
theorem dX7_init_193 : decode cX7_init 193 = .ok (.bipush 16, 2) := by decide +kernel
theorem dX7_init_195 : decode cX7_init 195 = .ok (.goto 4, 3) := by decide +kernel
theorem dX7_init_198 : decode cX7_init 198 = .ok (.iload_n 2, 1) := by decide +kernel
theorem dX7_init_199 : decode cX7_init 199 = .ok (.putfield 70, 3) := by decide +kernel
theorem dX7_init_202 : decode cX7_init 202 = .ok (.aload_n 0, 1) := by decide +kernel
theorem dX7_init_203 : decode cX7_init 203 = .ok (.iload_n 3, 1) := by decide +kernel
theorem dX7_init_204 : decode cX7_init 204 = .ok (.iconst 1, 1) := by decide +kernel
theorem dX7_init_205 : decode cX7_init 205 = .ok (.if_icmp .ge 7, 3) := by decide +kernel
theorem dX7_init_208 : decode cX7_init 208 = .ok (.iconst 1, 1) := by decide +kernel
theorem dX7_init_209 : decode cX7_init 209 = .ok (.goto 13, 3) := by decide +kernel
theorem dX7_init_212 : decode cX7_init 212 = .ok (.iload_n 3, 1) := by decide +kernel
theorem dX7_init_213 : decode cX7_init 213 = .ok (.iconst 4, 1) := by decide +kernel
theorem dX7_init_214 : decode cX7_init 214 = .ok (.if_icmp .le 7, 3) := by decide +kernel
theorem dX7_init_217 : decode cX7_init 217 = .ok (.iconst 4, 1) := by decide +kernel
theorem dX7_init_218 : decode cX7_init 218 = .ok (.goto 4, 3) := by decide +kernel
theorem dX7_init_221 : decode cX7_init 221 = .ok (.iload_n 3, 1) := by decide +kernel
theorem dX7_init_222 : decode cX7_init 222 = .ok (.putfield 73, 3) := by decide +kernel
theorem dX7_init_225 : decode cX7_init 225 = .ok (.aload_n 0, 1) := by decide +kernel
theorem dX7_init_226 : decode cX7_init 226 = .ok (.lload 4, 2) := by decide +kernel
theorem dX7_init_228 : decode cX7_init 228 = .ok (.putfield 76, 3) := by decide +kernel
theorem dX7_init_231 : decode cX7_init 231 = .ok (.iconst 0, 1) := by decide +kernel
theorem dX7_init_232 : decode cX7_init 232 = .ok (.istore 6, 2) := by decide +kernel
theorem dX7_init_234 : decode cX7_init 234 = .ok (.iload 6, 2) := by decide +kernel
theorem dX7_init_236 : decode cX7_init 236 = .ok (.sipush 1024, 3) := by decide +kernel
theorem dX7_init_239 : decode cX7_init 239 = .ok (.if_icmp .ge 17, 3) := by decide +kernel
theorem dX7_init_242 : decode cX7_init 242 = .ok (.aload_n 0, 1) := by decide +kernel
theorem dX7_init_243 : decode cX7_init 243 = .ok (.getfield 16, 3) := by decide +kernel
theorem dX7_init_246 : decode cX7_init 246 = .ok (.iload 6, 2) := by decide +kernel
theorem dX7_init_248 : decode cX7_init 248 = .ok (.iconst (-1), 1) := by decide +kernel
theorem dX7_init_249 : decode cX7_init 249 = .ok (.iastore, 1) := by decide +kernel
theorem dX7_init_250 : decode cX7_init 250 = .ok (.iinc 6 1, 3) := by decide +kernel
theorem dX7_init_253 : decode cX7_init 253 = .ok (.goto (-19), 3) := by decide +kernel
theorem dX7_init_256 : decode cX7_init 256 = .ok (.return_, 1) := by decide +kernel
theorem dX7_thrown_0 : decode cX7_thrown 0 = .ok (.aload_n 0, 1) := by decide +kernel
theorem dX7_thrown_1 : decode cX7_thrown 1 = .ok (.getfield 80, 3) := by decide +kernel
theorem dX7_thrown_4 : decode cX7_thrown 4 = .ok (.ireturn, 1) := by decide +kernel
theorem dX7_cell_0 : decode cX7_cell 0 = .ok (.iload_n 1, 1) := by decide +kernel
theorem dX7_cell_1 : decode cX7_cell 1 = .ok (.ifCond .lt 39, 3) := by decide +kernel
theorem dX7_cell_4 : decode cX7_cell 4 = .ok (.iload_n 1, 1) := by decide +kernel
theorem dX7_cell_5 : decode cX7_cell 5 = .ok (.aload_n 0, 1) := by decide +kernel
theorem dX7_cell_6 : decode cX7_cell 6 = .ok (.getfield 73, 3) := by decide +kernel
theorem dX7_cell_9 : decode cX7_cell 9 = .ok (.if_icmp .ge 31, 3) := by decide +kernel
theorem dX7_cell_12 : decode cX7_cell 12 = .ok (.iload_n 2, 1) := by decide +kernel
theorem dX7_cell_13 : decode cX7_cell 13 = .ok (.ifCond .lt 27, 3) := by decide +kernel
theorem dX7_cell_16 : decode cX7_cell 16 = .ok (.iload_n 2, 1) := by decide +kernel
theorem dX7_cell_17 : decode cX7_cell 17 = .ok (.aload_n 0, 1) := by decide +kernel
theorem dX7_cell_18 : decode cX7_cell 18 = .ok (.getfield 66, 3) := by decide +kernel
theorem dX7_cell_21 : decode cX7_cell 21 = .ok (.if_icmp .ge 19, 3) := by decide +kernel
theorem dX7_cell_24 : decode cX7_cell 24 = .ok (.iload_n 3, 1) := by decide +kernel
theorem dX7_cell_25 : decode cX7_cell 25 = .ok (.ifCond .lt 15, 3) := by decide +kernel
theorem dX7_cell_28 : decode cX7_cell 28 = .ok (.iload_n 3, 1) := by decide +kernel
theorem dX7_cell_29 : decode cX7_cell 29 = .ok (.aload_n 0, 1) := by decide +kernel
theorem dX7_cell_30 : decode cX7_cell 30 = .ok (.getfield 70, 3) := by decide +kernel
theorem dX7_cell_33 : decode cX7_cell 33 = .ok (.if_icmp .ge 7, 3) := by decide +kernel
theorem dX7_cell_36 : decode cX7_cell 36 = .ok (.iconst 1, 1) := by decide +kernel
theorem dX7_cell_37 : decode cX7_cell 37 = .ok (.goto 4, 3) := by decide +kernel
theorem dX7_cell_40 : decode cX7_cell 40 = .ok (.iconst 0, 1) := by decide +kernel
theorem dX7_cell_41 : decode cX7_cell 41 = .ok (.istore 4, 2) := by decide +kernel
theorem dX7_cell_43 : decode cX7_cell 43 = .ok (.iload 4, 2) := by decide +kernel
theorem dX7_cell_45 : decode cX7_cell 45 = .ok (.ifCond .eq 21, 3) := by decide +kernel
theorem dX7_cell_48 : decode cX7_cell 48 = .ok (.iload_n 1, 1) := by decide +kernel
theorem dX7_cell_49 : decode cX7_cell 49 = .ok (.aload_n 0, 1) := by decide +kernel
theorem dX7_cell_50 : decode cX7_cell 50 = .ok (.getfield 70, 3) := by decide +kernel
theorem dX7_cell_53 : decode cX7_cell 53 = .ok (.imul, 1) := by decide +kernel
theorem dX7_cell_54 : decode cX7_cell 54 = .ok (.iload_n 3, 1) := by decide +kernel
theorem dX7_cell_55 : decode cX7_cell 55 = .ok (.iadd, 1) := by decide +kernel
theorem dX7_cell_56 : decode cX7_cell 56 = .ok (.aload_n 0, 1) := by decide +kernel
theorem dX7_cell_57 : decode cX7_cell 57 = .ok (.getfield 66, 3) := by decide +kernel
theorem dX7_cell_60 : decode cX7_cell 60 = .ok (.imul, 1) := by decide +kernel
theorem dX7_cell_61 : decode cX7_cell 61 = .ok (.iload_n 2, 1) := by decide +kernel
theorem dX7_cell_62 : decode cX7_cell 62 = .ok (.iadd, 1) := by decide +kernel
theorem dX7_cell_63 : decode cX7_cell 63 = .ok (.goto 4, 3) := by decide +kernel
theorem dX7_cell_66 : decode cX7_cell 66 = .ok (.iconst (-1), 1) := by decide +kernel
theorem dX7_cell_67 : decode cX7_cell 67 = .ok (.ireturn, 1) := by decide +kernel
theorem dX7_layerOf_0 : decode cX7_layerOf 0 = .ok (.iload_n 1, 1) := by decide +kernel
theorem dX7_layerOf_1 : decode cX7_layerOf 1 = .ok (.aload_n 0, 1) := by decide +kernel
theorem dX7_layerOf_2 : decode cX7_layerOf 2 = .ok (.getfield 66, 3) := by decide +kernel
theorem dX7_layerOf_5 : decode cX7_layerOf 5 = .ok (.aload_n 0, 1) := by decide +kernel
theorem dX7_layerOf_6 : decode cX7_layerOf 6 = .ok (.getfield 70, 3) := by decide +kernel
theorem dX7_layerOf_9 : decode cX7_layerOf 9 = .ok (.imul, 1) := by decide +kernel
theorem dX7_layerOf_10 : decode cX7_layerOf 10 = .ok (.idiv, 1) := by decide +kernel
theorem dX7_layerOf_11 : decode cX7_layerOf 11 = .ok (.ireturn, 1) := by decide +kernel
theorem dX7_rowOf_0 : decode cX7_rowOf 0 = .ok (.iload_n 1, 1) := by decide +kernel
theorem dX7_rowOf_1 : decode cX7_rowOf 1 = .ok (.aload_n 0, 1) := by decide +kernel
theorem dX7_rowOf_2 : decode cX7_rowOf 2 = .ok (.getfield 66, 3) := by decide +kernel
theorem dX7_rowOf_5 : decode cX7_rowOf 5 = .ok (.idiv, 1) := by decide +kernel
theorem dX7_rowOf_6 : decode cX7_rowOf 6 = .ok (.aload_n 0, 1) := by decide +kernel
theorem dX7_rowOf_7 : decode cX7_rowOf 7 = .ok (.getfield 70, 3) := by decide +kernel
theorem dX7_rowOf_10 : decode cX7_rowOf 10 = .ok (.irem, 1) := by decide +kernel
theorem dX7_rowOf_11 : decode cX7_rowOf 11 = .ok (.ireturn, 1) := by decide +kernel
set_option maxRecDepth 20000 in
theorem ggX7_neighbour_X7_layerOf : GoodIn wsX7_neighbour wsX7_layerOf := goodIn_r _ [6, 1, 7, 17, 18, 19, 20, 21, 22, 23, 24, 25, 26, 27, 28, 29, 30, 31, 32, 33, 34, 35, 36, 37, 38, 39, 40, 41] (by decide +kernel) (by decide +kernel)
set_option maxRecDepth 20000 in
theorem gX7_neighbour_X7_layerOf : GoodIn wsX7_neighbour (wsV RX7 83 RX7 yX7_layerOf wsX7_layerOf) := goodIn_app (goodIn_of _ (by decide +kernel)) ggX7_neighbour_X7_layerOf
set_option maxRecDepth 20000 in
theorem ggX7_neighbour_X7_rowOf : GoodIn wsX7_neighbour wsX7_rowOf := goodIn_r _ [11, 1, 7, 17, 18, 19, 20, 21, 22, 23, 24, 25, 26, 27, 28, 29, 30, 31, 32, 33, 34, 35, 36, 37, 38, 39, 40, 41] (by decide +kernel) (by decide +kernel)
set_option maxRecDepth 20000 in
theorem gX7_neighbour_X7_rowOf : GoodIn wsX7_neighbour (wsV RX7 87 RX7 yX7_rowOf wsX7_rowOf) := goodIn_app (goodIn_of _ (by decide +kernel)) ggX7_neighbour_X7_rowOf
set_option maxRecDepth 20000 in
theorem ggX7_neighbour_X7_cell : GoodIn wsX7_neighbour wsX7_cell := goodIn_r _ [15, 16, 1, 7, 17, 18, 19, 20, 21, 22, 23, 24, 25, 26, 27, 28, 29, 30, 31, 32, 33, 34, 35, 36, 37, 38, 39, 40, 41] (by decide +kernel) (by decide +kernel)
set_option maxRecDepth 20000 in
theorem gX7_neighbour_X7_cell : GoodIn wsX7_neighbour (wsV RX7 90 RX7 yX7_cell wsX7_cell) := goodIn_app (goodIn_of _ (by decide +kernel)) ggX7_neighbour_X7_cell
theorem dX7_neighbour_0 : decode cX7_neighbour 0 = .ok (.aload_n 0, 1) := by decide +kernel
theorem dX7_neighbour_1 : decode cX7_neighbour 1 = .ok (.iload_n 1, 1) := by decide +kernel
theorem dX7_neighbour_2 : decode cX7_neighbour 2 = .ok (.invokevirtual 83, 3) := by decide +kernel
theorem dX7_neighbour_5 : decode cX7_neighbour 5 = .ok (.istore_n 3, 1) := by decide +kernel
theorem dX7_neighbour_6 : decode cX7_neighbour 6 = .ok (.iload_n 1, 1) := by decide +kernel
theorem dX7_neighbour_7 : decode cX7_neighbour 7 = .ok (.aload_n 0, 1) := by decide +kernel
theorem dX7_neighbour_8 : decode cX7_neighbour 8 = .ok (.getfield 66, 3) := by decide +kernel
theorem dX7_neighbour_11 : decode cX7_neighbour 11 = .ok (.irem, 1) := by decide +kernel
theorem dX7_neighbour_12 : decode cX7_neighbour 12 = .ok (.istore 4, 2) := by decide +kernel
theorem dX7_neighbour_14 : decode cX7_neighbour 14 = .ok (.aload_n 0, 1) := by decide +kernel
theorem dX7_neighbour_15 : decode cX7_neighbour 15 = .ok (.iload_n 1, 1) := by decide +kernel
theorem dX7_neighbour_16 : decode cX7_neighbour 16 = .ok (.invokevirtual 87, 3) := by decide +kernel
theorem dX7_neighbour_19 : decode cX7_neighbour 19 = .ok (.istore 5, 2) := by decide +kernel
theorem dX7_neighbour_21 : decode cX7_neighbour 21 = .ok (.iload_n 2, 1) := by decide +kernel
theorem dX7_neighbour_22 : decode cX7_neighbour 22 = .ok (.tableswitch 94 0 4 #[34, 46, 58, 70, 82], 34) := by decide +kernel
theorem dX7_neighbour_56 : decode cX7_neighbour 56 = .ok (.aload_n 0, 1) := by decide +kernel
theorem dX7_neighbour_57 : decode cX7_neighbour 57 = .ok (.iload_n 3, 1) := by decide +kernel
theorem dX7_neighbour_58 : decode cX7_neighbour 58 = .ok (.iconst 1, 1) := by decide +kernel
theorem dX7_neighbour_59 : decode cX7_neighbour 59 = .ok (.isub, 1) := by decide +kernel
theorem dX7_neighbour_60 : decode cX7_neighbour 60 = .ok (.iload 4, 2) := by decide +kernel
theorem dX7_neighbour_62 : decode cX7_neighbour 62 = .ok (.iload 5, 2) := by decide +kernel
theorem dX7_neighbour_64 : decode cX7_neighbour 64 = .ok (.invokevirtual 90, 3) := by decide +kernel
theorem dX7_neighbour_67 : decode cX7_neighbour 67 = .ok (.ireturn, 1) := by decide +kernel
theorem dX7_neighbour_68 : decode cX7_neighbour 68 = .ok (.aload_n 0, 1) := by decide +kernel
theorem dX7_neighbour_69 : decode cX7_neighbour 69 = .ok (.iload_n 3, 1) := by decide +kernel
theorem dX7_neighbour_70 : decode cX7_neighbour 70 = .ok (.iload 4, 2) := by decide +kernel
theorem dX7_neighbour_72 : decode cX7_neighbour 72 = .ok (.iload 5, 2) := by decide +kernel
theorem dX7_neighbour_74 : decode cX7_neighbour 74 = .ok (.iconst 1, 1) := by decide +kernel
theorem dX7_neighbour_75 : decode cX7_neighbour 75 = .ok (.isub, 1) := by decide +kernel
theorem dX7_neighbour_76 : decode cX7_neighbour 76 = .ok (.invokevirtual 90, 3) := by decide +kernel
theorem dX7_neighbour_79 : decode cX7_neighbour 79 = .ok (.ireturn, 1) := by decide +kernel
theorem dX7_neighbour_80 : decode cX7_neighbour 80 = .ok (.aload_n 0, 1) := by decide +kernel
theorem dX7_neighbour_81 : decode cX7_neighbour 81 = .ok (.iload_n 3, 1) := by decide +kernel
theorem dX7_neighbour_82 : decode cX7_neighbour 82 = .ok (.iload 4, 2) := by decide +kernel
theorem dX7_neighbour_84 : decode cX7_neighbour 84 = .ok (.iconst 1, 1) := by decide +kernel
theorem dX7_neighbour_85 : decode cX7_neighbour 85 = .ok (.isub, 1) := by decide +kernel
theorem dX7_neighbour_86 : decode cX7_neighbour 86 = .ok (.iload 5, 2) := by decide +kernel
theorem dX7_neighbour_88 : decode cX7_neighbour 88 = .ok (.invokevirtual 90, 3) := by decide +kernel
theorem dX7_neighbour_91 : decode cX7_neighbour 91 = .ok (.ireturn, 1) := by decide +kernel
theorem dX7_neighbour_92 : decode cX7_neighbour 92 = .ok (.aload_n 0, 1) := by decide +kernel
theorem dX7_neighbour_93 : decode cX7_neighbour 93 = .ok (.iload_n 3, 1) := by decide +kernel
theorem dX7_neighbour_94 : decode cX7_neighbour 94 = .ok (.iload 4, 2) := by decide +kernel
theorem dX7_neighbour_96 : decode cX7_neighbour 96 = .ok (.iconst 1, 1) := by decide +kernel
theorem dX7_neighbour_97 : decode cX7_neighbour 97 = .ok (.iadd, 1) := by decide +kernel
theorem dX7_neighbour_98 : decode cX7_neighbour 98 = .ok (.iload 5, 2) := by decide +kernel
theorem dX7_neighbour_100 : decode cX7_neighbour 100 = .ok (.invokevirtual 90, 3) := by decide +kernel
theorem dX7_neighbour_103 : decode cX7_neighbour 103 = .ok (.ireturn, 1) := by decide +kernel
theorem dX7_neighbour_104 : decode cX7_neighbour 104 = .ok (.aload_n 0, 1) := by decide +kernel
theorem dX7_neighbour_105 : decode cX7_neighbour 105 = .ok (.iload_n 3, 1) := by decide +kernel
theorem dX7_neighbour_106 : decode cX7_neighbour 106 = .ok (.iload 4, 2) := by decide +kernel
theorem dX7_neighbour_108 : decode cX7_neighbour 108 = .ok (.iload 5, 2) := by decide +kernel
theorem dX7_neighbour_110 : decode cX7_neighbour 110 = .ok (.iconst 1, 1) := by decide +kernel
theorem dX7_neighbour_111 : decode cX7_neighbour 111 = .ok (.iadd, 1) := by decide +kernel
theorem dX7_neighbour_112 : decode cX7_neighbour 112 = .ok (.invokevirtual 90, 3) := by decide +kernel
theorem dX7_neighbour_115 : decode cX7_neighbour 115 = .ok (.ireturn, 1) := by decide +kernel
theorem dX7_neighbour_116 : decode cX7_neighbour 116 = .ok (.aload_n 0, 1) := by decide +kernel
theorem dX7_neighbour_117 : decode cX7_neighbour 117 = .ok (.iload_n 3, 1) := by decide +kernel
theorem dX7_neighbour_118 : decode cX7_neighbour 118 = .ok (.iconst 1, 1) := by decide +kernel
theorem dX7_neighbour_119 : decode cX7_neighbour 119 = .ok (.iadd, 1) := by decide +kernel
theorem dX7_neighbour_120 : decode cX7_neighbour 120 = .ok (.iload 4, 2) := by decide +kernel
theorem dX7_neighbour_122 : decode cX7_neighbour 122 = .ok (.iload 5, 2) := by decide +kernel
theorem dX7_neighbour_124 : decode cX7_neighbour 124 = .ok (.invokevirtual 90, 3) := by decide +kernel
theorem dX7_neighbour_127 : decode cX7_neighbour 127 = .ok (.ireturn, 1) := by decide +kernel
theorem dX7_isNet_0 : decode cX7_isNet 0 = .ok (.iload_n 1, 1) := by decide +kernel
theorem dX7_isNet_1 : decode cX7_isNet 1 = .ok (.ifCond .lt 15, 3) := by decide +kernel
theorem dX7_isNet_4 : decode cX7_isNet 4 = .ok (.iload_n 1, 1) := by decide +kernel
theorem dX7_isNet_5 : decode cX7_isNet 5 = .ok (.aload_n 0, 1) := by decide +kernel
theorem dX7_isNet_6 : decode cX7_isNet 6 = .ok (.getfield 94, 3) := by decide +kernel
theorem dX7_isNet_9 : decode cX7_isNet 9 = .ok (.if_icmp .ge 7, 3) := by decide +kernel
theorem dX7_isNet_12 : decode cX7_isNet 12 = .ok (.iconst 1, 1) := by decide +kernel
theorem dX7_isNet_13 : decode cX7_isNet 13 = .ok (.goto 4, 3) := by decide +kernel
theorem dX7_isNet_16 : decode cX7_isNet 16 = .ok (.iconst 0, 1) := by decide +kernel
theorem dX7_isNet_17 : decode cX7_isNet 17 = .ok (.ireturn, 1) := by decide +kernel
set_option maxRecDepth 20000 in
theorem ggX7_bar_X7_cell : GoodIn wsX7_bar wsX7_cell := goodIn_r _ [8, 9, 10, 11, 12, 13, 14, 15, 16, 17, 18, 19, 20, 21, 22, 23, 24, 25, 26, 27, 28, 29, 30, 31, 32, 33, 34, 35, 36] (by decide +kernel) (by decide +kernel)
set_option maxRecDepth 20000 in
theorem gX7_bar_X7_cell : GoodIn wsX7_bar (wsV RX7 90 RX7 yX7_cell wsX7_cell) := goodIn_app (goodIn_of _ (by decide +kernel)) ggX7_bar_X7_cell
theorem dX7_bar_0 : decode cX7_bar 0 = .ok (.aload_n 0, 1) := by decide +kernel
theorem dX7_bar_1 : decode cX7_bar 1 = .ok (.iload_n 1, 1) := by decide +kernel
theorem dX7_bar_2 : decode cX7_bar 2 = .ok (.iload_n 2, 1) := by decide +kernel
theorem dX7_bar_3 : decode cX7_bar 3 = .ok (.iload_n 3, 1) := by decide +kernel
theorem dX7_bar_4 : decode cX7_bar 4 = .ok (.invokevirtual 90, 3) := by decide +kernel
theorem dX7_bar_7 : decode cX7_bar 7 = .ok (.istore 4, 2) := by decide +kernel
theorem dX7_bar_9 : decode cX7_bar 9 = .ok (.aload_n 0, 1) := by decide +kernel
theorem dX7_bar_10 : decode cX7_bar 10 = .ok (.iload 4, 2) := by decide +kernel
theorem dX7_bar_12 : decode cX7_bar 12 = .ok (.iconst (-1), 1) := by decide +kernel
theorem dX7_bar_13 : decode cX7_bar 13 = .ok (.if_icmp .ne 7, 3) := by decide +kernel
theorem dX7_bar_16 : decode cX7_bar 16 = .ok (.iconst 1, 1) := by decide +kernel
theorem dX7_bar_17 : decode cX7_bar 17 = .ok (.goto 4, 3) := by decide +kernel
theorem dX7_bar_20 : decode cX7_bar 20 = .ok (.iconst 0, 1) := by decide +kernel
theorem dX7_bar_21 : decode cX7_bar 21 = .ok (.putfield 80, 3) := by decide +kernel
theorem dX7_bar_24 : decode cX7_bar 24 = .ok (.aload_n 0, 1) := by decide +kernel
theorem dX7_bar_25 : decode cX7_bar 25 = .ok (.getfield 80, 3) := by decide +kernel
theorem dX7_bar_28 : decode cX7_bar 28 = .ok (.ifCond .ne 24, 3) := by decide +kernel
theorem dX7_bar_31 : decode cX7_bar 31 = .ok (.aload_n 0, 1) := by decide +kernel
theorem dX7_bar_32 : decode cX7_bar 32 = .ok (.getfield 23, 3) := by decide +kernel
theorem dX7_bar_35 : decode cX7_bar 35 = .ok (.iload 4, 2) := by decide +kernel
theorem dX7_bar_37 : decode cX7_bar 37 = .ok (.baload, 1) := by decide +kernel
theorem dX7_bar_38 : decode cX7_bar 38 = .ok (.ifCond .ne 14, 3) := by decide +kernel
theorem dX7_bar_41 : decode cX7_bar 41 = .ok (.aload_n 0, 1) := by decide +kernel
theorem dX7_bar_42 : decode cX7_bar 42 = .ok (.getfield 16, 3) := by decide +kernel
theorem dX7_bar_45 : decode cX7_bar 45 = .ok (.iload 4, 2) := by decide +kernel
theorem dX7_bar_47 : decode cX7_bar 47 = .ok (.iaload, 1) := by decide +kernel
theorem dX7_bar_48 : decode cX7_bar 48 = .ok (.iconst (-1), 1) := by decide +kernel
theorem dX7_bar_49 : decode cX7_bar 49 = .ok (.if_icmp .eq 5, 3) := by decide +kernel
theorem dX7_bar_52 : decode cX7_bar 52 = .ok (.iconst 0, 1) := by decide +kernel
theorem dX7_bar_53 : decode cX7_bar 53 = .ok (.ireturn, 1) := by decide +kernel
theorem dX7_bar_54 : decode cX7_bar 54 = .ok (.aload_n 0, 1) := by decide +kernel
theorem dX7_bar_55 : decode cX7_bar 55 = .ok (.getfield 23, 3) := by decide +kernel
theorem dX7_bar_58 : decode cX7_bar 58 = .ok (.iload 4, 2) := by decide +kernel
theorem dX7_bar_60 : decode cX7_bar 60 = .ok (.iconst 1, 1) := by decide +kernel
theorem dX7_bar_61 : decode cX7_bar 61 = .ok (.bastore, 1) := by decide +kernel
theorem dX7_bar_62 : decode cX7_bar 62 = .ok (.iconst 1, 1) := by decide +kernel
theorem dX7_bar_63 : decode cX7_bar 63 = .ok (.ireturn, 1) := by decide +kernel
theorem dX7_net_0 : decode cX7_net 0 = .ok (.aload_n 0, 1) := by decide +kernel
theorem dX7_net_1 : decode cX7_net 1 = .ok (.iconst 0, 1) := by decide +kernel
theorem dX7_net_2 : decode cX7_net 2 = .ok (.putfield 80, 3) := by decide +kernel
theorem dX7_net_5 : decode cX7_net 5 = .ok (.aload_n 0, 1) := by decide +kernel
theorem dX7_net_6 : decode cX7_net 6 = .ok (.getfield 94, 3) := by decide +kernel
theorem dX7_net_9 : decode cX7_net 9 = .ok (.bipush 12, 2) := by decide +kernel
theorem dX7_net_11 : decode cX7_net 11 = .ok (.if_icmp .ne 5, 3) := by decide +kernel
theorem dX7_net_14 : decode cX7_net 14 = .ok (.iconst (-1), 1) := by decide +kernel
theorem dX7_net_15 : decode cX7_net 15 = .ok (.ireturn, 1) := by decide +kernel
theorem dX7_net_16 : decode cX7_net 16 = .ok (.aload_n 0, 1) := by decide +kernel
theorem dX7_net_17 : decode cX7_net 17 = .ok (.dup, 1) := by decide +kernel
theorem dX7_net_18 : decode cX7_net 18 = .ok (.getfield 94, 3) := by decide +kernel
theorem dX7_net_21 : decode cX7_net 21 = .ok (.iconst 1, 1) := by decide +kernel
theorem dX7_net_22 : decode cX7_net 22 = .ok (.iadd, 1) := by decide +kernel
theorem dX7_net_23 : decode cX7_net 23 = .ok (.putfield 94, 3) := by decide +kernel
theorem dX7_net_26 : decode cX7_net 26 = .ok (.aload_n 0, 1) := by decide +kernel
theorem dX7_net_27 : decode cX7_net 27 = .ok (.getfield 94, 3) := by decide +kernel
theorem dX7_net_30 : decode cX7_net 30 = .ok (.iconst 1, 1) := by decide +kernel
theorem dX7_net_31 : decode cX7_net 31 = .ok (.isub, 1) := by decide +kernel
theorem dX7_net_32 : decode cX7_net 32 = .ok (.ireturn, 1) := by decide +kernel
theorem dX7_loosen_0 : decode cX7_loosen 0 = .ok (.iconst 0, 1) := by decide +kernel
theorem dX7_loosen_1 : decode cX7_loosen 1 = .ok (.istore_n 2, 1) := by decide +kernel
theorem dX7_loosen_2 : decode cX7_loosen 2 = .ok (.iload_n 2, 1) := by decide +kernel
theorem dX7_loosen_3 : decode cX7_loosen 3 = .ok (.sipush 1024, 3) := by decide +kernel
theorem dX7_loosen_6 : decode cX7_loosen 6 = .ok (.if_icmp .ge 44, 3) := by decide +kernel
theorem dX7_loosen_9 : decode cX7_loosen 9 = .ok (.aload_n 0, 1) := by decide +kernel
theorem dX7_loosen_10 : decode cX7_loosen 10 = .ok (.getfield 16, 3) := by decide +kernel
theorem dX7_loosen_13 : decode cX7_loosen 13 = .ok (.iload_n 2, 1) := by decide +kernel
theorem dX7_loosen_14 : decode cX7_loosen 14 = .ok (.aload_n 0, 1) := by decide +kernel
theorem dX7_loosen_15 : decode cX7_loosen 15 = .ok (.getfield 16, 3) := by decide +kernel
theorem dX7_loosen_18 : decode cX7_loosen 18 = .ok (.iload_n 2, 1) := by decide +kernel
theorem dX7_loosen_19 : decode cX7_loosen 19 = .ok (.iaload, 1) := by decide +kernel
theorem dX7_loosen_20 : decode cX7_loosen 20 = .ok (.iload_n 1, 1) := by decide +kernel
theorem dX7_loosen_21 : decode cX7_loosen 21 = .ok (.if_icmp .ne 16, 3) := by decide +kernel
theorem dX7_loosen_24 : decode cX7_loosen 24 = .ok (.aload_n 0, 1) := by decide +kernel
theorem dX7_loosen_25 : decode cX7_loosen 25 = .ok (.getfield 19, 3) := by decide +kernel
theorem dX7_loosen_28 : decode cX7_loosen 28 = .ok (.iload_n 2, 1) := by decide +kernel
theorem dX7_loosen_29 : decode cX7_loosen 29 = .ok (.baload, 1) := by decide +kernel
theorem dX7_loosen_30 : decode cX7_loosen 30 = .ok (.ifCond .ne 7, 3) := by decide +kernel
theorem dX7_loosen_33 : decode cX7_loosen 33 = .ok (.iconst (-1), 1) := by decide +kernel
theorem dX7_loosen_34 : decode cX7_loosen 34 = .ok (.goto 9, 3) := by decide +kernel
theorem dX7_loosen_37 : decode cX7_loosen 37 = .ok (.aload_n 0, 1) := by decide +kernel
theorem dX7_loosen_38 : decode cX7_loosen 38 = .ok (.getfield 16, 3) := by decide +kernel
theorem dX7_loosen_41 : decode cX7_loosen 41 = .ok (.iload_n 2, 1) := by decide +kernel
theorem dX7_loosen_42 : decode cX7_loosen 42 = .ok (.iaload, 1) := by decide +kernel
theorem dX7_loosen_43 : decode cX7_loosen 43 = .ok (.iastore, 1) := by decide +kernel
theorem dX7_loosen_44 : decode cX7_loosen 44 = .ok (.iinc 2 1, 3) := by decide +kernel
theorem dX7_loosen_47 : decode cX7_loosen 47 = .ok (.goto (-45), 3) := by decide +kernel
theorem dX7_loosen_50 : decode cX7_loosen 50 = .ok (.aload_n 0, 1) := by decide +kernel
theorem dX7_loosen_51 : decode cX7_loosen 51 = .ok (.getfield 39, 3) := by decide +kernel
theorem dX7_loosen_54 : decode cX7_loosen 54 = .ok (.iload_n 1, 1) := by decide +kernel
theorem dX7_loosen_55 : decode cX7_loosen 55 = .ok (.iconst 0, 1) := by decide +kernel
theorem dX7_loosen_56 : decode cX7_loosen 56 = .ok (.bastore, 1) := by decide +kernel
theorem dX7_loosen_57 : decode cX7_loosen 57 = .ok (.aload_n 0, 1) := by decide +kernel
theorem dX7_loosen_58 : decode cX7_loosen 58 = .ok (.getfield 42, 3) := by decide +kernel
theorem dX7_loosen_61 : decode cX7_loosen 61 = .ok (.iload_n 1, 1) := by decide +kernel
theorem dX7_loosen_62 : decode cX7_loosen 62 = .ok (.iconst 0, 1) := by decide +kernel
theorem dX7_loosen_63 : decode cX7_loosen 63 = .ok (.iastore, 1) := by decide +kernel
theorem dX7_loosen_64 : decode cX7_loosen 64 = .ok (.return_, 1) := by decide +kernel
set_option maxRecDepth 20000 in
theorem ggX7_pin_X7_cell : GoodIn wsX7_pin wsX7_cell := goodIn_r _ [11, 12, 13, 14, 26, 27, 28, 29, 30, 31, 32, 33, 34, 35, 36, 37, 38, 39, 40, 41, 42, 43, 44, 45, 46, 47, 48, 49, 50] (by decide +kernel) (by decide +kernel)
set_option maxRecDepth 20000 in
theorem gX7_pin_X7_cell : GoodIn wsX7_pin (wsV RX7 90 RX7 yX7_cell wsX7_cell) := goodIn_app (goodIn_of _ (by decide +kernel)) ggX7_pin_X7_cell
set_option maxRecDepth 20000 in
theorem ggX7_pin_X7_isNet : GoodIn wsX7_pin wsX7_isNet := goodIn_r _ [18, 19, 26, 27, 28, 29, 30, 31, 32, 33, 34, 35, 36, 37, 38, 39, 40, 41, 42, 43, 44, 45, 46, 47, 48, 49, 50] (by decide +kernel) (by decide +kernel)
set_option maxRecDepth 20000 in
theorem gX7_pin_X7_isNet : GoodIn wsX7_pin (wsV RX7 97 RX7 yX7_isNet wsX7_isNet) := goodIn_app (goodIn_of _ (by decide +kernel)) ggX7_pin_X7_isNet
set_option maxRecDepth 20000 in
theorem ggX7_pin_X7_loosen : GoodIn wsX7_pin wsX7_loosen := goodIn_r _ [23, 3, 2, 24, 25, 26, 27, 28, 29, 30, 31, 32, 33, 34, 35, 36, 37, 38, 39, 40, 41, 42, 43, 44, 45, 46, 47, 48, 49, 50] (by decide +kernel) (by decide +kernel)
set_option maxRecDepth 20000 in
theorem gX7_pin_X7_loosen : GoodIn wsX7_pin (wsV RX7 101 RX7 yX7_loosen wsX7_loosen) := goodIn_app (goodIn_of _ (by decide +kernel)) ggX7_pin_X7_loosen
theorem dX7_pin_0 : decode cX7_pin 0 = .ok (.aload_n 0, 1) := by decide +kernel
theorem dX7_pin_1 : decode cX7_pin 1 = .ok (.iload_n 2, 1) := by decide +kernel
theorem dX7_pin_2 : decode cX7_pin 2 = .ok (.iload_n 3, 1) := by decide +kernel
theorem dX7_pin_3 : decode cX7_pin 3 = .ok (.iload 4, 2) := by decide +kernel
theorem dX7_pin_5 : decode cX7_pin 5 = .ok (.invokevirtual 90, 3) := by decide +kernel
theorem dX7_pin_8 : decode cX7_pin 8 = .ok (.istore 5, 2) := by decide +kernel
theorem dX7_pin_10 : decode cX7_pin 10 = .ok (.aload_n 0, 1) := by decide +kernel
theorem dX7_pin_11 : decode cX7_pin 11 = .ok (.aload_n 0, 1) := by decide +kernel
theorem dX7_pin_12 : decode cX7_pin 12 = .ok (.iload_n 1, 1) := by decide +kernel
theorem dX7_pin_13 : decode cX7_pin 13 = .ok (.invokevirtual 97, 3) := by decide +kernel
theorem dX7_pin_16 : decode cX7_pin 16 = .ok (.ifCond .eq 13, 3) := by decide +kernel
theorem dX7_pin_19 : decode cX7_pin 19 = .ok (.iload 5, 2) := by decide +kernel
theorem dX7_pin_21 : decode cX7_pin 21 = .ok (.iconst (-1), 1) := by decide +kernel
theorem dX7_pin_22 : decode cX7_pin 22 = .ok (.if_icmp .eq 7, 3) := by decide +kernel
theorem dX7_pin_25 : decode cX7_pin 25 = .ok (.iconst 0, 1) := by decide +kernel
theorem dX7_pin_26 : decode cX7_pin 26 = .ok (.goto 4, 3) := by decide +kernel
theorem dX7_pin_29 : decode cX7_pin 29 = .ok (.iconst 1, 1) := by decide +kernel
theorem dX7_pin_30 : decode cX7_pin 30 = .ok (.putfield 80, 3) := by decide +kernel
theorem dX7_pin_33 : decode cX7_pin 33 = .ok (.aload_n 0, 1) := by decide +kernel
theorem dX7_pin_34 : decode cX7_pin 34 = .ok (.getfield 80, 3) := by decide +kernel
theorem dX7_pin_37 : decode cX7_pin 37 = .ok (.ifCond .eq 5, 3) := by decide +kernel
theorem dX7_pin_40 : decode cX7_pin 40 = .ok (.iconst 0, 1) := by decide +kernel
theorem dX7_pin_41 : decode cX7_pin 41 = .ok (.ireturn, 1) := by decide +kernel
theorem dX7_pin_42 : decode cX7_pin 42 = .ok (.aload_n 0, 1) := by decide +kernel
theorem dX7_pin_43 : decode cX7_pin 43 = .ok (.getfield 19, 3) := by decide +kernel
theorem dX7_pin_46 : decode cX7_pin 46 = .ok (.iload 5, 2) := by decide +kernel
theorem dX7_pin_48 : decode cX7_pin 48 = .ok (.baload, 1) := by decide +kernel
theorem dX7_pin_49 : decode cX7_pin 49 = .ok (.ifCond .eq 18, 3) := by decide +kernel
theorem dX7_pin_52 : decode cX7_pin 52 = .ok (.aload_n 0, 1) := by decide +kernel
theorem dX7_pin_53 : decode cX7_pin 53 = .ok (.getfield 16, 3) := by decide +kernel
theorem dX7_pin_56 : decode cX7_pin 56 = .ok (.iload 5, 2) := by decide +kernel
theorem dX7_pin_58 : decode cX7_pin 58 = .ok (.iaload, 1) := by decide +kernel
theorem dX7_pin_59 : decode cX7_pin 59 = .ok (.iload_n 1, 1) := by decide +kernel
theorem dX7_pin_60 : decode cX7_pin 60 = .ok (.if_icmp .ne 7, 3) := by decide +kernel
theorem dX7_pin_63 : decode cX7_pin 63 = .ok (.iconst 1, 1) := by decide +kernel
theorem dX7_pin_64 : decode cX7_pin 64 = .ok (.goto 4, 3) := by decide +kernel
theorem dX7_pin_67 : decode cX7_pin 67 = .ok (.iconst 0, 1) := by decide +kernel
theorem dX7_pin_68 : decode cX7_pin 68 = .ok (.istore 6, 2) := by decide +kernel
theorem dX7_pin_70 : decode cX7_pin 70 = .ok (.aload_n 0, 1) := by decide +kernel
theorem dX7_pin_71 : decode cX7_pin 71 = .ok (.getfield 23, 3) := by decide +kernel
theorem dX7_pin_74 : decode cX7_pin 74 = .ok (.iload 5, 2) := by decide +kernel
theorem dX7_pin_76 : decode cX7_pin 76 = .ok (.baload, 1) := by decide +kernel
theorem dX7_pin_77 : decode cX7_pin 77 = .ok (.ifCond .ne 40, 3) := by decide +kernel
theorem dX7_pin_80 : decode cX7_pin 80 = .ok (.iload 6, 2) := by decide +kernel
theorem dX7_pin_82 : decode cX7_pin 82 = .ok (.ifCond .ne 35, 3) := by decide +kernel
theorem dX7_pin_85 : decode cX7_pin 85 = .ok (.aload_n 0, 1) := by decide +kernel
theorem dX7_pin_86 : decode cX7_pin 86 = .ok (.getfield 16, 3) := by decide +kernel
theorem dX7_pin_89 : decode cX7_pin 89 = .ok (.iload 5, 2) := by decide +kernel
theorem dX7_pin_91 : decode cX7_pin 91 = .ok (.iaload, 1) := by decide +kernel
theorem dX7_pin_92 : decode cX7_pin 92 = .ok (.iconst (-1), 1) := by decide +kernel
theorem dX7_pin_93 : decode cX7_pin 93 = .ok (.if_icmp .eq 14, 3) := by decide +kernel
theorem dX7_pin_96 : decode cX7_pin 96 = .ok (.aload_n 0, 1) := by decide +kernel
theorem dX7_pin_97 : decode cX7_pin 97 = .ok (.getfield 16, 3) := by decide +kernel
theorem dX7_pin_100 : decode cX7_pin 100 = .ok (.iload 5, 2) := by decide +kernel
theorem dX7_pin_102 : decode cX7_pin 102 = .ok (.iaload, 1) := by decide +kernel
theorem dX7_pin_103 : decode cX7_pin 103 = .ok (.iload_n 1, 1) := by decide +kernel
theorem dX7_pin_104 : decode cX7_pin 104 = .ok (.if_icmp .ne 13, 3) := by decide +kernel
theorem dX7_pin_107 : decode cX7_pin 107 = .ok (.aload_n 0, 1) := by decide +kernel
theorem dX7_pin_108 : decode cX7_pin 108 = .ok (.getfield 7, 3) := by decide +kernel
theorem dX7_pin_111 : decode cX7_pin 111 = .ok (.iload_n 1, 1) := by decide +kernel
theorem dX7_pin_112 : decode cX7_pin 112 = .ok (.iaload, 1) := by decide +kernel
theorem dX7_pin_113 : decode cX7_pin 113 = .ok (.iconst 5, 1) := by decide +kernel
theorem dX7_pin_114 : decode cX7_pin 114 = .ok (.if_icmp .ne 5, 3) := by decide +kernel
theorem dX7_pin_117 : decode cX7_pin 117 = .ok (.iconst 0, 1) := by decide +kernel
theorem dX7_pin_118 : decode cX7_pin 118 = .ok (.ireturn, 1) := by decide +kernel
theorem dX7_pin_119 : decode cX7_pin 119 = .ok (.aload_n 0, 1) := by decide +kernel
theorem dX7_pin_120 : decode cX7_pin 120 = .ok (.iload_n 1, 1) := by decide +kernel
theorem dX7_pin_121 : decode cX7_pin 121 = .ok (.invokevirtual 101, 3) := by decide +kernel
theorem dX7_pin_124 : decode cX7_pin 124 = .ok (.aload_n 0, 1) := by decide +kernel
theorem dX7_pin_125 : decode cX7_pin 125 = .ok (.getfield 13, 3) := by decide +kernel
theorem dX7_pin_128 : decode cX7_pin 128 = .ok (.iconst 5, 1) := by decide +kernel
theorem dX7_pin_129 : decode cX7_pin 129 = .ok (.iload_n 1, 1) := by decide +kernel
theorem dX7_pin_130 : decode cX7_pin 130 = .ok (.imul, 1) := by decide +kernel
theorem dX7_pin_131 : decode cX7_pin 131 = .ok (.aload_n 0, 1) := by decide +kernel
theorem dX7_pin_132 : decode cX7_pin 132 = .ok (.getfield 7, 3) := by decide +kernel
theorem dX7_pin_135 : decode cX7_pin 135 = .ok (.iload_n 1, 1) := by decide +kernel
theorem dX7_pin_136 : decode cX7_pin 136 = .ok (.iaload, 1) := by decide +kernel
theorem dX7_pin_137 : decode cX7_pin 137 = .ok (.iadd, 1) := by decide +kernel
theorem dX7_pin_138 : decode cX7_pin 138 = .ok (.iload 5, 2) := by decide +kernel
theorem dX7_pin_140 : decode cX7_pin 140 = .ok (.iastore, 1) := by decide +kernel
theorem dX7_pin_141 : decode cX7_pin 141 = .ok (.aload_n 0, 1) := by decide +kernel
theorem dX7_pin_142 : decode cX7_pin 142 = .ok (.getfield 7, 3) := by decide +kernel
theorem dX7_pin_145 : decode cX7_pin 145 = .ok (.iload_n 1, 1) := by decide +kernel
theorem dX7_pin_146 : decode cX7_pin 146 = .ok (.dup2, 1) := by decide +kernel
theorem dX7_pin_147 : decode cX7_pin 147 = .ok (.iaload, 1) := by decide +kernel
theorem dX7_pin_148 : decode cX7_pin 148 = .ok (.iconst 1, 1) := by decide +kernel
theorem dX7_pin_149 : decode cX7_pin 149 = .ok (.iadd, 1) := by decide +kernel
theorem dX7_pin_150 : decode cX7_pin 150 = .ok (.iastore, 1) := by decide +kernel
theorem dX7_pin_151 : decode cX7_pin 151 = .ok (.aload_n 0, 1) := by decide +kernel
theorem dX7_pin_152 : decode cX7_pin 152 = .ok (.getfield 16, 3) := by decide +kernel
theorem dX7_pin_155 : decode cX7_pin 155 = .ok (.iload 5, 2) := by decide +kernel
theorem dX7_pin_157 : decode cX7_pin 157 = .ok (.iload_n 1, 1) := by decide +kernel
theorem dX7_pin_158 : decode cX7_pin 158 = .ok (.iastore, 1) := by decide +kernel
theorem dX7_pin_159 : decode cX7_pin 159 = .ok (.aload_n 0, 1) := by decide +kernel
theorem dX7_pin_160 : decode cX7_pin 160 = .ok (.getfield 19, 3) := by decide +kernel
theorem dX7_pin_163 : decode cX7_pin 163 = .ok (.iload 5, 2) := by decide +kernel
theorem dX7_pin_165 : decode cX7_pin 165 = .ok (.iconst 1, 1) := by decide +kernel
theorem dX7_pin_166 : decode cX7_pin 166 = .ok (.bastore, 1) := by decide +kernel
theorem dX7_pin_167 : decode cX7_pin 167 = .ok (.iconst 1, 1) := by decide +kernel
theorem dX7_pin_168 : decode cX7_pin 168 = .ok (.ireturn, 1) := by decide +kernel
theorem dX7_isCost_0 : decode cX7_isCost 0 = .ok (.iload_n 0, 1) := by decide +kernel
theorem dX7_isCost_1 : decode cX7_isCost 1 = .ok (.ifCond .lt 13, 3) := by decide +kernel
theorem dX7_isCost_4 : decode cX7_isCost 4 = .ok (.iload_n 0, 1) := by decide +kernel
theorem dX7_isCost_5 : decode cX7_isCost 5 = .ok (.bipush 50, 2) := by decide +kernel
theorem dX7_isCost_7 : decode cX7_isCost 7 = .ok (.if_icmp .gt 7, 3) := by decide +kernel
theorem dX7_isCost_10 : decode cX7_isCost 10 = .ok (.iconst 1, 1) := by decide +kernel
theorem dX7_isCost_11 : decode cX7_isCost 11 = .ok (.goto 4, 3) := by decide +kernel
theorem dX7_isCost_14 : decode cX7_isCost 14 = .ok (.iconst 0, 1) := by decide +kernel
theorem dX7_isCost_15 : decode cX7_isCost 15 = .ok (.ireturn, 1) := by decide +kernel
set_option maxRecDepth 20000 in
theorem ggX7_cost_X7_isCost : GoodIn wsX7_cost wsX7_isCost := goodIn_r _ [9] (by decide +kernel) (by decide +kernel)
set_option maxRecDepth 20000 in
theorem gX7_cost_X7_isCost : GoodIn wsX7_cost (va_wsS RX7 105 yX7_isCost wsX7_isCost) := goodIn_app (goodIn_of _ (by decide +kernel)) ggX7_cost_X7_isCost
theorem dX7_cost_0 : decode cX7_cost 0 = .ok (.aload_n 0, 1) := by decide +kernel
theorem dX7_cost_1 : decode cX7_cost 1 = .ok (.iload_n 1, 1) := by decide +kernel
theorem dX7_cost_2 : decode cX7_cost 2 = .ok (.ifCond .lt 11, 3) := by decide +kernel
theorem dX7_cost_5 : decode cX7_cost 5 = .ok (.iload_n 1, 1) := by decide +kernel
theorem dX7_cost_6 : decode cX7_cost 6 = .ok (.aload_n 0, 1) := by decide +kernel
theorem dX7_cost_7 : decode cX7_cost 7 = .ok (.getfield 73, 3) := by decide +kernel
theorem dX7_cost_10 : decode cX7_cost 10 = .ok (.if_icmp .lt 7, 3) := by decide +kernel
theorem dX7_cost_13 : decode cX7_cost 13 = .ok (.iconst 1, 1) := by decide +kernel
theorem dX7_cost_14 : decode cX7_cost 14 = .ok (.goto 30, 3) := by decide +kernel
theorem dX7_cost_17 : decode cX7_cost 17 = .ok (.iload_n 2, 1) := by decide +kernel
theorem dX7_cost_18 : decode cX7_cost 18 = .ok (.invokestatic 105, 3) := by decide +kernel
theorem dX7_cost_21 : decode cX7_cost 21 = .ok (.ifCond .eq 22, 3) := by decide +kernel
theorem dX7_cost_24 : decode cX7_cost 24 = .ok (.iload_n 3, 1) := by decide +kernel
theorem dX7_cost_25 : decode cX7_cost 25 = .ok (.invokestatic 105, 3) := by decide +kernel
theorem dX7_cost_28 : decode cX7_cost 28 = .ok (.ifCond .eq 15, 3) := by decide +kernel
theorem dX7_cost_31 : decode cX7_cost 31 = .ok (.iload 4, 2) := by decide +kernel
theorem dX7_cost_33 : decode cX7_cost 33 = .ok (.invokestatic 105, 3) := by decide +kernel
theorem dX7_cost_36 : decode cX7_cost 36 = .ok (.ifCond .eq 7, 3) := by decide +kernel
theorem dX7_cost_39 : decode cX7_cost 39 = .ok (.iconst 0, 1) := by decide +kernel
theorem dX7_cost_40 : decode cX7_cost 40 = .ok (.goto 4, 3) := by decide +kernel
theorem dX7_cost_43 : decode cX7_cost 43 = .ok (.iconst 2, 1) := by decide +kernel
theorem dX7_cost_44 : decode cX7_cost 44 = .ok (.putfield 80, 3) := by decide +kernel
theorem dX7_cost_47 : decode cX7_cost 47 = .ok (.aload_n 0, 1) := by decide +kernel
theorem dX7_cost_48 : decode cX7_cost 48 = .ok (.getfield 80, 3) := by decide +kernel
theorem dX7_cost_51 : decode cX7_cost 51 = .ok (.ifCond .eq 5, 3) := by decide +kernel
theorem dX7_cost_54 : decode cX7_cost 54 = .ok (.iconst 0, 1) := by decide +kernel
theorem dX7_cost_55 : decode cX7_cost 55 = .ok (.ireturn, 1) := by decide +kernel
theorem dX7_cost_56 : decode cX7_cost 56 = .ok (.aload_n 0, 1) := by decide +kernel
theorem dX7_cost_57 : decode cX7_cost 57 = .ok (.getfield 30, 3) := by decide +kernel
theorem dX7_cost_60 : decode cX7_cost 60 = .ok (.iload_n 1, 1) := by decide +kernel
theorem dX7_cost_61 : decode cX7_cost 61 = .ok (.iaload, 1) := by decide +kernel
theorem dX7_cost_62 : decode cX7_cost 62 = .ok (.iload_n 2, 1) := by decide +kernel
theorem dX7_cost_63 : decode cX7_cost 63 = .ok (.if_icmp .ne 24, 3) := by decide +kernel
theorem dX7_cost_66 : decode cX7_cost 66 = .ok (.aload_n 0, 1) := by decide +kernel
theorem dX7_cost_67 : decode cX7_cost 67 = .ok (.getfield 33, 3) := by decide +kernel
theorem dX7_cost_70 : decode cX7_cost 70 = .ok (.iload_n 1, 1) := by decide +kernel
theorem dX7_cost_71 : decode cX7_cost 71 = .ok (.iaload, 1) := by decide +kernel
theorem dX7_cost_72 : decode cX7_cost 72 = .ok (.iload_n 3, 1) := by decide +kernel
theorem dX7_cost_73 : decode cX7_cost 73 = .ok (.if_icmp .ne 14, 3) := by decide +kernel
theorem dX7_cost_76 : decode cX7_cost 76 = .ok (.aload_n 0, 1) := by decide +kernel
theorem dX7_cost_77 : decode cX7_cost 77 = .ok (.getfield 36, 3) := by decide +kernel
theorem dX7_cost_80 : decode cX7_cost 80 = .ok (.iload_n 1, 1) := by decide +kernel
theorem dX7_cost_81 : decode cX7_cost 81 = .ok (.iaload, 1) := by decide +kernel
theorem dX7_cost_82 : decode cX7_cost 82 = .ok (.iload 4, 2) := by decide +kernel
theorem dX7_cost_84 : decode cX7_cost 84 = .ok (.if_icmp .eq 7, 3) := by decide +kernel
theorem dX7_cost_87 : decode cX7_cost 87 = .ok (.iconst 1, 1) := by decide +kernel
theorem dX7_cost_88 : decode cX7_cost 88 = .ok (.goto 4, 3) := by decide +kernel
theorem dX7_cost_91 : decode cX7_cost 91 = .ok (.iconst 0, 1) := by decide +kernel
theorem dX7_cost_92 : decode cX7_cost 92 = .ok (.istore 5, 2) := by decide +kernel
theorem dX7_cost_94 : decode cX7_cost 94 = .ok (.aload_n 0, 1) := by decide +kernel
theorem dX7_cost_95 : decode cX7_cost 95 = .ok (.getfield 30, 3) := by decide +kernel
theorem dX7_cost_98 : decode cX7_cost 98 = .ok (.iload_n 1, 1) := by decide +kernel
theorem dX7_cost_99 : decode cX7_cost 99 = .ok (.iload_n 2, 1) := by decide +kernel
theorem dX7_cost_100 : decode cX7_cost 100 = .ok (.iastore, 1) := by decide +kernel
theorem dX7_cost_101 : decode cX7_cost 101 = .ok (.aload_n 0, 1) := by decide +kernel
theorem dX7_cost_102 : decode cX7_cost 102 = .ok (.getfield 33, 3) := by decide +kernel
theorem dX7_cost_105 : decode cX7_cost 105 = .ok (.iload_n 1, 1) := by decide +kernel
theorem dX7_cost_106 : decode cX7_cost 106 = .ok (.iload_n 3, 1) := by decide +kernel
theorem dX7_cost_107 : decode cX7_cost 107 = .ok (.iastore, 1) := by decide +kernel
theorem dX7_cost_108 : decode cX7_cost 108 = .ok (.aload_n 0, 1) := by decide +kernel
theorem dX7_cost_109 : decode cX7_cost 109 = .ok (.getfield 36, 3) := by decide +kernel
theorem dX7_cost_112 : decode cX7_cost 112 = .ok (.iload_n 1, 1) := by decide +kernel
theorem dX7_cost_113 : decode cX7_cost 113 = .ok (.iload 4, 2) := by decide +kernel
theorem dX7_cost_115 : decode cX7_cost 115 = .ok (.iastore, 1) := by decide +kernel
theorem dX7_cost_116 : decode cX7_cost 116 = .ok (.iload 5, 2) := by decide +kernel
theorem dX7_cost_118 : decode cX7_cost 118 = .ok (.ireturn, 1) := by decide +kernel
set_option maxRecDepth 20000 in
theorem ggX7_step_X7_layerOf : GoodIn wsX7_step wsX7_layerOf := goodIn_r _ [12, 13, 14, 28, 29, 30, 31, 32, 33, 34, 35, 36, 37, 38, 39, 40, 41, 42, 43, 44, 45, 46, 47, 48, 49, 50, 51, 52] (by decide +kernel) (by decide +kernel)
set_option maxRecDepth 20000 in
theorem gX7_step_X7_layerOf : GoodIn wsX7_step (wsV RX7 83 RX7 yX7_layerOf wsX7_layerOf) := goodIn_app (goodIn_of _ (by decide +kernel)) ggX7_step_X7_layerOf
set_option maxRecDepth 20000 in
theorem ggX7_step_X7_neighbour : GoodIn wsX7_step wsX7_neighbour := goodIn_r _ [18, 13, 8, 9, 10, 11, 12, 14, 19, 20, 21, 22, 23, 24, 25, 26, 27, 28, 29, 30, 31, 32, 33, 34, 35, 36, 37, 38, 39, 40, 41, 42, 43, 44, 45, 46, 47, 48, 49, 50, 51, 52] (by decide +kernel) (by decide +kernel)
set_option maxRecDepth 20000 in
theorem gX7_step_X7_neighbour : GoodIn wsX7_step (wsV RX7 110 RX7 yX7_neighbour wsX7_neighbour) := goodIn_app (goodIn_of _ (by decide +kernel)) ggX7_step_X7_neighbour
theorem dX7_step_0 : decode cX7_step 0 = .ok (.aload_n 0, 1) := by decide +kernel
theorem dX7_step_1 : decode cX7_step 1 = .ok (.iload 4, 2) := by decide +kernel
theorem dX7_step_3 : decode cX7_step 3 = .ok (.invokevirtual 83, 3) := by decide +kernel
theorem dX7_step_6 : decode cX7_step 6 = .ok (.istore 6, 2) := by decide +kernel
theorem dX7_step_8 : decode cX7_step 8 = .ok (.ldc2_w 108, 3) := by decide +kernel
theorem dX7_step_11 : decode cX7_step 11 = .ok (.lstore 7, 2) := by decide +kernel
theorem dX7_step_13 : decode cX7_step 13 = .ok (.iload_n 3, 1) := by decide +kernel
theorem dX7_step_14 : decode cX7_step 14 = .ok (.ifCond .eq 8, 3) := by decide +kernel
theorem dX7_step_17 : decode cX7_step 17 = .ok (.iload_n 3, 1) := by decide +kernel
theorem dX7_step_18 : decode cX7_step 18 = .ok (.iconst 5, 1) := by decide +kernel
theorem dX7_step_19 : decode cX7_step 19 = .ok (.if_icmp .ne 31, 3) := by decide +kernel
theorem dX7_step_22 : decode cX7_step 22 = .ok (.lload 7, 2) := by decide +kernel
theorem dX7_step_24 : decode cX7_step 24 = .ok (.aload_n 0, 1) := by decide +kernel
theorem dX7_step_25 : decode cX7_step 25 = .ok (.getfield 33, 3) := by decide +kernel
theorem dX7_step_28 : decode cX7_step 28 = .ok (.iload_n 3, 1) := by decide +kernel
theorem dX7_step_29 : decode cX7_step 29 = .ok (.ifCond .ne 8, 3) := by decide +kernel
theorem dX7_step_32 : decode cX7_step 32 = .ok (.iload 6, 2) := by decide +kernel
theorem dX7_step_34 : decode cX7_step 34 = .ok (.goto 8, 3) := by decide +kernel
theorem dX7_step_37 : decode cX7_step 37 = .ok (.aload_n 0, 1) := by decide +kernel
theorem dX7_step_38 : decode cX7_step 38 = .ok (.iload_n 2, 1) := by decide +kernel
theorem dX7_step_39 : decode cX7_step 39 = .ok (.invokevirtual 83, 3) := by decide +kernel
theorem dX7_step_42 : decode cX7_step 42 = .ok (.iaload, 1) := by decide +kernel
theorem dX7_step_43 : decode cX7_step 43 = .ok (.i2l, 1) := by decide +kernel
theorem dX7_step_44 : decode cX7_step 44 = .ok (.ladd, 1) := by decide +kernel
theorem dX7_step_45 : decode cX7_step 45 = .ok (.lstore 7, 2) := by decide +kernel
theorem dX7_step_47 : decode cX7_step 47 = .ok (.goto 54, 3) := by decide +kernel
theorem dX7_step_50 : decode cX7_step 50 = .ok (.iload_n 3, 1) := by decide +kernel
theorem dX7_step_51 : decode cX7_step 51 = .ok (.iconst 1, 1) := by decide +kernel
theorem dX7_step_52 : decode cX7_step 52 = .ok (.if_icmp .eq 8, 3) := by decide +kernel
theorem dX7_step_55 : decode cX7_step 55 = .ok (.iload_n 3, 1) := by decide +kernel
theorem dX7_step_56 : decode cX7_step 56 = .ok (.iconst 4, 1) := by decide +kernel
theorem dX7_step_57 : decode cX7_step 57 = .ok (.if_icmp .ne 7, 3) := by decide +kernel
theorem dX7_step_60 : decode cX7_step 60 = .ok (.iconst 1, 1) := by decide +kernel
theorem dX7_step_61 : decode cX7_step 61 = .ok (.goto 4, 3) := by decide +kernel
theorem dX7_step_64 : decode cX7_step 64 = .ok (.iconst 0, 1) := by decide +kernel
theorem dX7_step_65 : decode cX7_step 65 = .ok (.istore 9, 2) := by decide +kernel
theorem dX7_step_67 : decode cX7_step 67 = .ok (.lload 7, 2) := by decide +kernel
theorem dX7_step_69 : decode cX7_step 69 = .ok (.iload 9, 2) := by decide +kernel
theorem dX7_step_71 : decode cX7_step 71 = .ok (.iload 6, 2) := by decide +kernel
theorem dX7_step_73 : decode cX7_step 73 = .ok (.iconst 2, 1) := by decide +kernel
theorem dX7_step_74 : decode cX7_step 74 = .ok (.irem, 1) := by decide +kernel
theorem dX7_step_75 : decode cX7_step 75 = .ok (.ifCond .ne 7, 3) := by decide +kernel
theorem dX7_step_78 : decode cX7_step 78 = .ok (.iconst 1, 1) := by decide +kernel
theorem dX7_step_79 : decode cX7_step 79 = .ok (.goto 4, 3) := by decide +kernel
theorem dX7_step_82 : decode cX7_step 82 = .ok (.iconst 0, 1) := by decide +kernel
theorem dX7_step_83 : decode cX7_step 83 = .ok (.if_icmp .ne 14, 3) := by decide +kernel
theorem dX7_step_86 : decode cX7_step 86 = .ok (.aload_n 0, 1) := by decide +kernel
theorem dX7_step_87 : decode cX7_step 87 = .ok (.getfield 30, 3) := by decide +kernel
theorem dX7_step_90 : decode cX7_step 90 = .ok (.iload 6, 2) := by decide +kernel
theorem dX7_step_92 : decode cX7_step 92 = .ok (.iaload, 1) := by decide +kernel
theorem dX7_step_93 : decode cX7_step 93 = .ok (.i2l, 1) := by decide +kernel
theorem dX7_step_94 : decode cX7_step 94 = .ok (.goto 4, 3) := by decide +kernel
theorem dX7_step_97 : decode cX7_step 97 = .ok (.lconst 0, 1) := by decide +kernel
theorem dX7_step_98 : decode cX7_step 98 = .ok (.ladd, 1) := by decide +kernel
theorem dX7_step_99 : decode cX7_step 99 = .ok (.lstore 7, 2) := by decide +kernel
theorem dX7_step_101 : decode cX7_step 101 = .ok (.iconst 1, 1) := by decide +kernel
theorem dX7_step_102 : decode cX7_step 102 = .ok (.istore 9, 2) := by decide +kernel
theorem dX7_step_104 : decode cX7_step 104 = .ok (.iload 9, 2) := by decide +kernel
theorem dX7_step_106 : decode cX7_step 106 = .ok (.iconst 5, 1) := by decide +kernel
theorem dX7_step_107 : decode cX7_step 107 = .ok (.if_icmp .ge 64, 3) := by decide +kernel
theorem dX7_step_110 : decode cX7_step 110 = .ok (.aload_n 0, 1) := by decide +kernel
theorem dX7_step_111 : decode cX7_step 111 = .ok (.iload 4, 2) := by decide +kernel
theorem dX7_step_113 : decode cX7_step 113 = .ok (.iload 9, 2) := by decide +kernel
theorem dX7_step_115 : decode cX7_step 115 = .ok (.invokevirtual 110, 3) := by decide +kernel
theorem dX7_step_118 : decode cX7_step 118 = .ok (.istore 10, 2) := by decide +kernel
theorem dX7_step_120 : decode cX7_step 120 = .ok (.lload 7, 2) := by decide +kernel
theorem dX7_step_122 : decode cX7_step 122 = .ok (.iload 10, 2) := by decide +kernel
theorem dX7_step_124 : decode cX7_step 124 = .ok (.iconst (-1), 1) := by decide +kernel
theorem dX7_step_125 : decode cX7_step 125 = .ok (.if_icmp .eq 36, 3) := by decide +kernel
theorem dX7_step_128 : decode cX7_step 128 = .ok (.aload_n 0, 1) := by decide +kernel
theorem dX7_step_129 : decode cX7_step 129 = .ok (.getfield 16, 3) := by decide +kernel
theorem dX7_step_132 : decode cX7_step 132 = .ok (.iload 10, 2) := by decide +kernel
theorem dX7_step_134 : decode cX7_step 134 = .ok (.iaload, 1) := by decide +kernel
theorem dX7_step_135 : decode cX7_step 135 = .ok (.iconst (-1), 1) := by decide +kernel
theorem dX7_step_136 : decode cX7_step 136 = .ok (.if_icmp .eq 25, 3) := by decide +kernel
theorem dX7_step_139 : decode cX7_step 139 = .ok (.aload_n 0, 1) := by decide +kernel
theorem dX7_step_140 : decode cX7_step 140 = .ok (.getfield 16, 3) := by decide +kernel
theorem dX7_step_143 : decode cX7_step 143 = .ok (.iload 10, 2) := by decide +kernel
theorem dX7_step_145 : decode cX7_step 145 = .ok (.iaload, 1) := by decide +kernel
theorem dX7_step_146 : decode cX7_step 146 = .ok (.iload_n 1, 1) := by decide +kernel
theorem dX7_step_147 : decode cX7_step 147 = .ok (.if_icmp .eq 14, 3) := by decide +kernel
theorem dX7_step_150 : decode cX7_step 150 = .ok (.aload_n 0, 1) := by decide +kernel
theorem dX7_step_151 : decode cX7_step 151 = .ok (.getfield 36, 3) := by decide +kernel
theorem dX7_step_154 : decode cX7_step 154 = .ok (.iload 6, 2) := by decide +kernel
theorem dX7_step_156 : decode cX7_step 156 = .ok (.iaload, 1) := by decide +kernel
theorem dX7_step_157 : decode cX7_step 157 = .ok (.i2l, 1) := by decide +kernel
theorem dX7_step_158 : decode cX7_step 158 = .ok (.goto 4, 3) := by decide +kernel
theorem dX7_step_161 : decode cX7_step 161 = .ok (.lconst 0, 1) := by decide +kernel
theorem dX7_step_162 : decode cX7_step 162 = .ok (.ladd, 1) := by decide +kernel
theorem dX7_step_163 : decode cX7_step 163 = .ok (.lstore 7, 2) := by decide +kernel
theorem dX7_step_165 : decode cX7_step 165 = .ok (.iinc 9 1, 3) := by decide +kernel
theorem dX7_step_168 : decode cX7_step 168 = .ok (.goto (-64), 3) := by decide +kernel
theorem dX7_step_171 : decode cX7_step 171 = .ok (.lload 7, 2) := by decide +kernel
theorem dX7_step_173 : decode cX7_step 173 = .ok (.aload_n 0, 1) := by decide +kernel
theorem dX7_step_174 : decode cX7_step 174 = .ok (.getfield 26, 3) := by decide +kernel
theorem dX7_step_177 : decode cX7_step 177 = .ok (.iload 4, 2) := by decide +kernel
theorem dX7_step_179 : decode cX7_step 179 = .ok (.laload, 1) := by decide +kernel
theorem dX7_step_180 : decode cX7_step 180 = .ok (.ladd, 1) := by decide +kernel
theorem dX7_step_181 : decode cX7_step 181 = .ok (.iload 5, 2) := by decide +kernel
theorem dX7_step_183 : decode cX7_step 183 = .ok (.ifCond .eq 31, 3) := by decide +kernel
theorem dX7_step_186 : decode cX7_step 186 = .ok (.aload_n 0, 1) := by decide +kernel
theorem dX7_step_187 : decode cX7_step 187 = .ok (.getfield 16, 3) := by decide +kernel
theorem dX7_step_190 : decode cX7_step 190 = .ok (.iload 4, 2) := by decide +kernel
theorem dX7_step_192 : decode cX7_step 192 = .ok (.iaload, 1) := by decide +kernel
theorem dX7_step_193 : decode cX7_step 193 = .ok (.iconst (-1), 1) := by decide +kernel
theorem dX7_step_194 : decode cX7_step 194 = .ok (.if_icmp .eq 20, 3) := by decide +kernel
theorem dX7_step_197 : decode cX7_step 197 = .ok (.aload_n 0, 1) := by decide +kernel
theorem dX7_step_198 : decode cX7_step 198 = .ok (.getfield 16, 3) := by decide +kernel
theorem dX7_step_201 : decode cX7_step 201 = .ok (.iload 4, 2) := by decide +kernel
theorem dX7_step_203 : decode cX7_step 203 = .ok (.iaload, 1) := by decide +kernel
theorem dX7_step_204 : decode cX7_step 204 = .ok (.iload_n 1, 1) := by decide +kernel
theorem dX7_step_205 : decode cX7_step 205 = .ok (.if_icmp .eq 9, 3) := by decide +kernel
theorem dX7_step_208 : decode cX7_step 208 = .ok (.ldc2_w 114, 3) := by decide +kernel
theorem dX7_step_211 : decode cX7_step 211 = .ok (.goto 4, 3) := by decide +kernel
theorem dX7_step_214 : decode cX7_step 214 = .ok (.lconst 0, 1) := by decide +kernel
theorem dX7_step_215 : decode cX7_step 215 = .ok (.ladd, 1) := by decide +kernel
theorem dX7_step_216 : decode cX7_step 216 = .ok (.lreturn, 1) := by decide +kernel
theorem dX7_canCome_0 : decode cX7_canCome 0 = .ok (.iload_n 2, 1) := by decide +kernel
theorem dX7_canCome_1 : decode cX7_canCome 1 = .ok (.iconst (-1), 1) := by decide +kernel
theorem dX7_canCome_2 : decode cX7_canCome 2 = .ok (.if_icmp .eq 12, 3) := by decide +kernel
theorem dX7_canCome_5 : decode cX7_canCome 5 = .ok (.aload_n 0, 1) := by decide +kernel
theorem dX7_canCome_6 : decode cX7_canCome 6 = .ok (.getfield 23, 3) := by decide +kernel
theorem dX7_canCome_9 : decode cX7_canCome 9 = .ok (.iload_n 2, 1) := by decide +kernel
theorem dX7_canCome_10 : decode cX7_canCome 10 = .ok (.baload, 1) := by decide +kernel
theorem dX7_canCome_11 : decode cX7_canCome 11 = .ok (.ifCond .eq 5, 3) := by decide +kernel
theorem dX7_canCome_14 : decode cX7_canCome 14 = .ok (.iconst 0, 1) := by decide +kernel
theorem dX7_canCome_15 : decode cX7_canCome 15 = .ok (.ireturn, 1) := by decide +kernel
theorem dX7_canCome_16 : decode cX7_canCome 16 = .ok (.aload_n 0, 1) := by decide +kernel
theorem dX7_canCome_17 : decode cX7_canCome 17 = .ok (.getfield 16, 3) := by decide +kernel
theorem dX7_canCome_20 : decode cX7_canCome 20 = .ok (.iload_n 2, 1) := by decide +kernel
theorem dX7_canCome_21 : decode cX7_canCome 21 = .ok (.iaload, 1) := by decide +kernel
theorem dX7_canCome_22 : decode cX7_canCome 22 = .ok (.iconst (-1), 1) := by decide +kernel
theorem dX7_canCome_23 : decode cX7_canCome 23 = .ok (.if_icmp .eq 17, 3) := by decide +kernel
theorem dX7_canCome_26 : decode cX7_canCome 26 = .ok (.aload_n 0, 1) := by decide +kernel
theorem dX7_canCome_27 : decode cX7_canCome 27 = .ok (.getfield 16, 3) := by decide +kernel
theorem dX7_canCome_30 : decode cX7_canCome 30 = .ok (.iload_n 2, 1) := by decide +kernel
theorem dX7_canCome_31 : decode cX7_canCome 31 = .ok (.iaload, 1) := by decide +kernel
theorem dX7_canCome_32 : decode cX7_canCome 32 = .ok (.iload_n 1, 1) := by decide +kernel
theorem dX7_canCome_33 : decode cX7_canCome 33 = .ok (.if_icmp .eq 7, 3) := by decide +kernel
theorem dX7_canCome_36 : decode cX7_canCome 36 = .ok (.iconst 1, 1) := by decide +kernel
theorem dX7_canCome_37 : decode cX7_canCome 37 = .ok (.goto 4, 3) := by decide +kernel
theorem dX7_canCome_40 : decode cX7_canCome 40 = .ok (.iconst 0, 1) := by decide +kernel
theorem dX7_canCome_41 : decode cX7_canCome 41 = .ok (.istore 4, 2) := by decide +kernel
theorem dX7_canCome_43 : decode cX7_canCome 43 = .ok (.iload 4, 2) := by decide +kernel
theorem dX7_canCome_45 : decode cX7_canCome 45 = .ok (.ifCond .eq 16, 3) := by decide +kernel
theorem dX7_canCome_48 : decode cX7_canCome 48 = .ok (.iload_n 3, 1) := by decide +kernel
theorem dX7_canCome_49 : decode cX7_canCome 49 = .ok (.ifCond .eq 16, 3) := by decide +kernel
theorem dX7_canCome_52 : decode cX7_canCome 52 = .ok (.aload_n 0, 1) := by decide +kernel
theorem dX7_canCome_53 : decode cX7_canCome 53 = .ok (.getfield 19, 3) := by decide +kernel
theorem dX7_canCome_56 : decode cX7_canCome 56 = .ok (.iload_n 2, 1) := by decide +kernel
theorem dX7_canCome_57 : decode cX7_canCome 57 = .ok (.baload, 1) := by decide +kernel
theorem dX7_canCome_58 : decode cX7_canCome 58 = .ok (.ifCond .ne 7, 3) := by decide +kernel
theorem dX7_canCome_61 : decode cX7_canCome 61 = .ok (.iconst 1, 1) := by decide +kernel
theorem dX7_canCome_62 : decode cX7_canCome 62 = .ok (.goto 4, 3) := by decide +kernel
theorem dX7_canCome_65 : decode cX7_canCome 65 = .ok (.iconst 0, 1) := by decide +kernel
theorem dX7_canCome_66 : decode cX7_canCome 66 = .ok (.ireturn, 1) := by decide +kernel
set_option maxRecDepth 20000 in
theorem ggX7_search_X7_neighbour : GoodIn wsX7_search wsX7_neighbour := goodIn_r _ [11, 1, 12, 13, 14, 10, 15, 2, 16, 17, 18, 19, 20, 21, 22, 23, 3, 41, 42, 43, 44, 45, 46, 47, 48, 49, 50, 51, 52, 53, 54, 55, 56, 57, 58, 59, 60, 61, 62, 63, 64, 65] (by decide +kernel) (by decide +kernel)
set_option maxRecDepth 20000 in
theorem gX7_search_X7_neighbour : GoodIn wsX7_search (wsV RX7 110 RX7 yX7_neighbour wsX7_neighbour) := goodIn_app (goodIn_of _ (by decide +kernel)) ggX7_search_X7_neighbour
set_option maxRecDepth 20000 in
theorem ggX7_search_X7_canCome : GoodIn wsX7_search wsX7_canCome := goodIn_r _ [27, 28, 29, 30, 41, 42, 43, 44, 45, 46, 47, 48, 49, 50, 51, 52, 53, 54, 55, 56, 57, 58, 59, 60, 61, 62, 63, 64, 65] (by decide +kernel) (by decide +kernel)
set_option maxRecDepth 20000 in
theorem gX7_search_X7_canCome : GoodIn wsX7_search (wsV RX7 118 RX7 yX7_canCome wsX7_canCome) := goodIn_app (goodIn_of _ (by decide +kernel)) ggX7_search_X7_canCome
set_option maxRecDepth 20000 in
theorem ggX7_search_X7_step : GoodIn wsX7_search wsX7_step := goodIn_r _ [34, 35, 36, 37, 29, 38, 39, 40, 12, 13, 14, 10, 15, 1, 2, 7, 8, 9, 11, 16, 17, 18, 19, 20, 21, 22, 23, 3, 41, 42, 43, 44, 45, 46, 47, 48, 49, 50, 51, 52, 53, 54, 55, 56, 57, 58, 59, 60, 61, 62, 63, 64, 65] (by decide +kernel) (by decide +kernel)
set_option maxRecDepth 20000 in
theorem gX7_search_X7_step : GoodIn wsX7_search (wsV RX7 122 RX7 yX7_step wsX7_step) := goodIn_app (goodIn_of _ (by decide +kernel)) ggX7_search_X7_step
theorem dX7_search_0 : decode cX7_search 0 = .ok (.aload_n 0, 1) := by decide +kernel
theorem dX7_search_1 : decode cX7_search 1 = .ok (.getfield 66, 3) := by decide +kernel
theorem dX7_search_4 : decode cX7_search 4 = .ok (.aload_n 0, 1) := by decide +kernel
theorem dX7_search_5 : decode cX7_search 5 = .ok (.getfield 70, 3) := by decide +kernel
theorem dX7_search_8 : decode cX7_search 8 = .ok (.imul, 1) := by decide +kernel
theorem dX7_search_9 : decode cX7_search 9 = .ok (.aload_n 0, 1) := by decide +kernel
theorem dX7_search_10 : decode cX7_search 10 = .ok (.getfield 73, 3) := by decide +kernel
theorem dX7_search_13 : decode cX7_search 13 = .ok (.imul, 1) := by decide +kernel
theorem dX7_search_14 : decode cX7_search 14 = .ok (.istore_n 3, 1) := by decide +kernel
theorem dX7_search_15 : decode cX7_search 15 = .ok (.iconst 0, 1) := by decide +kernel
theorem dX7_search_16 : decode cX7_search 16 = .ok (.istore 4, 2) := by decide +kernel
theorem dX7_search_18 : decode cX7_search 18 = .ok (.iload 4, 2) := by decide +kernel
theorem dX7_search_20 : decode cX7_search 20 = .ok (.iload_n 3, 1) := by decide +kernel
theorem dX7_search_21 : decode cX7_search 21 = .ok (.if_icmp .ge 33, 3) := by decide +kernel
theorem dX7_search_24 : decode cX7_search 24 = .ok (.aload_n 0, 1) := by decide +kernel
theorem dX7_search_25 : decode cX7_search 25 = .ok (.getfield 57, 3) := by decide +kernel
theorem dX7_search_28 : decode cX7_search 28 = .ok (.iload 4, 2) := by decide +kernel
theorem dX7_search_30 : decode cX7_search 30 = .ok (.aload_n 0, 1) := by decide +kernel
theorem dX7_search_31 : decode cX7_search 31 = .ok (.getfield 60, 3) := by decide +kernel
theorem dX7_search_34 : decode cX7_search 34 = .ok (.iload 4, 2) := by decide +kernel
theorem dX7_search_36 : decode cX7_search 36 = .ok (.baload, 1) := by decide +kernel
theorem dX7_search_37 : decode cX7_search 37 = .ok (.ifCond .eq 7, 3) := by decide +kernel
theorem dX7_search_40 : decode cX7_search 40 = .ok (.lconst 0, 1) := by decide +kernel
theorem dX7_search_41 : decode cX7_search 41 = .ok (.goto 6, 3) := by decide +kernel
theorem dX7_search_44 : decode cX7_search 44 = .ok (.ldc2_w 116, 3) := by decide +kernel
theorem dX7_search_47 : decode cX7_search 47 = .ok (.lastore, 1) := by decide +kernel
theorem dX7_search_48 : decode cX7_search 48 = .ok (.iinc 4 1, 3) := by decide +kernel
theorem dX7_search_51 : decode cX7_search 51 = .ok (.goto (-33), 3) := by decide +kernel
theorem dX7_search_54 : decode cX7_search 54 = .ok (.iconst 1, 1) := by decide +kernel
theorem dX7_search_55 : decode cX7_search 55 = .ok (.istore 4, 2) := by decide +kernel
theorem dX7_search_57 : decode cX7_search 57 = .ok (.iload 4, 2) := by decide +kernel
theorem dX7_search_59 : decode cX7_search 59 = .ok (.ifCond .eq 138, 3) := by decide +kernel
theorem dX7_search_62 : decode cX7_search 62 = .ok (.iconst 0, 1) := by decide +kernel
theorem dX7_search_63 : decode cX7_search 63 = .ok (.istore 4, 2) := by decide +kernel
theorem dX7_search_65 : decode cX7_search 65 = .ok (.iconst 0, 1) := by decide +kernel
theorem dX7_search_66 : decode cX7_search 66 = .ok (.istore 5, 2) := by decide +kernel
theorem dX7_search_68 : decode cX7_search 68 = .ok (.iload 5, 2) := by decide +kernel
theorem dX7_search_70 : decode cX7_search 70 = .ok (.iload_n 3, 1) := by decide +kernel
theorem dX7_search_71 : decode cX7_search 71 = .ok (.if_icmp .ge 123, 3) := by decide +kernel
theorem dX7_search_74 : decode cX7_search 74 = .ok (.iconst 0, 1) := by decide +kernel
theorem dX7_search_75 : decode cX7_search 75 = .ok (.istore 6, 2) := by decide +kernel
theorem dX7_search_77 : decode cX7_search 77 = .ok (.iload 6, 2) := by decide +kernel
theorem dX7_search_79 : decode cX7_search 79 = .ok (.bipush 6, 2) := by decide +kernel
theorem dX7_search_81 : decode cX7_search 81 = .ok (.if_icmp .ge 107, 3) := by decide +kernel
theorem dX7_search_84 : decode cX7_search 84 = .ok (.aload_n 0, 1) := by decide +kernel
theorem dX7_search_85 : decode cX7_search 85 = .ok (.getfield 57, 3) := by decide +kernel
theorem dX7_search_88 : decode cX7_search 88 = .ok (.iload 5, 2) := by decide +kernel
theorem dX7_search_90 : decode cX7_search 90 = .ok (.laload, 1) := by decide +kernel
theorem dX7_search_91 : decode cX7_search 91 = .ok (.lconst 0, 1) := by decide +kernel
theorem dX7_search_92 : decode cX7_search 92 = .ok (.lcmp, 1) := by decide +kernel
theorem dX7_search_93 : decode cX7_search 93 = .ok (.ifCond .lt 95, 3) := by decide +kernel
theorem dX7_search_96 : decode cX7_search 96 = .ok (.aload_n 0, 1) := by decide +kernel
theorem dX7_search_97 : decode cX7_search 97 = .ok (.iload 5, 2) := by decide +kernel
theorem dX7_search_99 : decode cX7_search 99 = .ok (.iload 6, 2) := by decide +kernel
theorem dX7_search_101 : decode cX7_search 101 = .ok (.invokevirtual 110, 3) := by decide +kernel
theorem dX7_search_104 : decode cX7_search 104 = .ok (.istore 7, 2) := by decide +kernel
theorem dX7_search_106 : decode cX7_search 106 = .ok (.aload_n 0, 1) := by decide +kernel
theorem dX7_search_107 : decode cX7_search 107 = .ok (.iload_n 1, 1) := by decide +kernel
theorem dX7_search_108 : decode cX7_search 108 = .ok (.iload 7, 2) := by decide +kernel
theorem dX7_search_110 : decode cX7_search 110 = .ok (.iload_n 2, 1) := by decide +kernel
theorem dX7_search_111 : decode cX7_search 111 = .ok (.invokevirtual 118, 3) := by decide +kernel
theorem dX7_search_114 : decode cX7_search 114 = .ok (.ifCond .ne 6, 3) := by decide +kernel
theorem dX7_search_117 : decode cX7_search 117 = .ok (.goto 65, 3) := by decide +kernel
theorem dX7_search_120 : decode cX7_search 120 = .ok (.aload_n 0, 1) := by decide +kernel
theorem dX7_search_121 : decode cX7_search 121 = .ok (.getfield 57, 3) := by decide +kernel
theorem dX7_search_124 : decode cX7_search 124 = .ok (.iload 5, 2) := by decide +kernel
theorem dX7_search_126 : decode cX7_search 126 = .ok (.laload, 1) := by decide +kernel
theorem dX7_search_127 : decode cX7_search 127 = .ok (.aload_n 0, 1) := by decide +kernel
theorem dX7_search_128 : decode cX7_search 128 = .ok (.iload_n 1, 1) := by decide +kernel
theorem dX7_search_129 : decode cX7_search 129 = .ok (.iload 5, 2) := by decide +kernel
theorem dX7_search_131 : decode cX7_search 131 = .ok (.iload 6, 2) := by decide +kernel
theorem dX7_search_133 : decode cX7_search 133 = .ok (.iload 7, 2) := by decide +kernel
theorem dX7_search_135 : decode cX7_search 135 = .ok (.iload_n 2, 1) := by decide +kernel
theorem dX7_search_136 : decode cX7_search 136 = .ok (.invokevirtual 122, 3) := by decide +kernel
theorem dX7_search_139 : decode cX7_search 139 = .ok (.ladd, 1) := by decide +kernel
theorem dX7_search_140 : decode cX7_search 140 = .ok (.lstore 8, 2) := by decide +kernel
theorem dX7_search_142 : decode cX7_search 142 = .ok (.aload_n 0, 1) := by decide +kernel
theorem dX7_search_143 : decode cX7_search 143 = .ok (.getfield 57, 3) := by decide +kernel
theorem dX7_search_146 : decode cX7_search 146 = .ok (.iload 7, 2) := by decide +kernel
theorem dX7_search_148 : decode cX7_search 148 = .ok (.laload, 1) := by decide +kernel
theorem dX7_search_149 : decode cX7_search 149 = .ok (.lconst 0, 1) := by decide +kernel
theorem dX7_search_150 : decode cX7_search 150 = .ok (.lcmp, 1) := by decide +kernel
theorem dX7_search_151 : decode cX7_search 151 = .ok (.ifCond .lt 19, 3) := by decide +kernel
theorem dX7_search_154 : decode cX7_search 154 = .ok (.aload_n 0, 1) := by decide +kernel
theorem dX7_search_155 : decode cX7_search 155 = .ok (.getfield 57, 3) := by decide +kernel
theorem dX7_search_158 : decode cX7_search 158 = .ok (.iload 7, 2) := by decide +kernel
theorem dX7_search_160 : decode cX7_search 160 = .ok (.laload, 1) := by decide +kernel
theorem dX7_search_161 : decode cX7_search 161 = .ok (.lload 8, 2) := by decide +kernel
theorem dX7_search_163 : decode cX7_search 163 = .ok (.lcmp, 1) := by decide +kernel
theorem dX7_search_164 : decode cX7_search 164 = .ok (.ifCond .gt 6, 3) := by decide +kernel
theorem dX7_search_167 : decode cX7_search 167 = .ok (.goto 15, 3) := by decide +kernel
theorem dX7_search_170 : decode cX7_search 170 = .ok (.aload_n 0, 1) := by decide +kernel
theorem dX7_search_171 : decode cX7_search 171 = .ok (.getfield 57, 3) := by decide +kernel
theorem dX7_search_174 : decode cX7_search 174 = .ok (.iload 7, 2) := by decide +kernel
theorem dX7_search_176 : decode cX7_search 176 = .ok (.lload 8, 2) := by decide +kernel
theorem dX7_search_178 : decode cX7_search 178 = .ok (.lastore, 1) := by decide +kernel
theorem dX7_search_179 : decode cX7_search 179 = .ok (.iconst 1, 1) := by decide +kernel
theorem dX7_search_180 : decode cX7_search 180 = .ok (.istore 4, 2) := by decide +kernel
theorem dX7_search_182 : decode cX7_search 182 = .ok (.iinc 6 1, 3) := by decide +kernel
theorem dX7_search_185 : decode cX7_search 185 = .ok (.goto (-108), 3) := by decide +kernel
theorem dX7_search_188 : decode cX7_search 188 = .ok (.iinc 5 1, 3) := by decide +kernel
theorem dX7_search_191 : decode cX7_search 191 = .ok (.goto (-123), 3) := by decide +kernel
theorem dX7_search_194 : decode cX7_search 194 = .ok (.goto (-137), 3) := by decide +kernel
theorem dX7_search_197 : decode cX7_search 197 = .ok (.return_, 1) := by decide +kernel
theorem dX7_nextPin_0 : decode cX7_nextPin 0 = .ok (.iconst (-1), 1) := by decide +kernel
theorem dX7_nextPin_1 : decode cX7_nextPin 1 = .ok (.istore_n 2, 1) := by decide +kernel
theorem dX7_nextPin_2 : decode cX7_nextPin 2 = .ok (.iconst 5, 1) := by decide +kernel
theorem dX7_nextPin_3 : decode cX7_nextPin 3 = .ok (.iload_n 1, 1) := by decide +kernel
theorem dX7_nextPin_4 : decode cX7_nextPin 4 = .ok (.imul, 1) := by decide +kernel
theorem dX7_nextPin_5 : decode cX7_nextPin 5 = .ok (.istore_n 3, 1) := by decide +kernel
theorem dX7_nextPin_6 : decode cX7_nextPin 6 = .ok (.iload_n 3, 1) := by decide +kernel
theorem dX7_nextPin_7 : decode cX7_nextPin 7 = .ok (.iconst 5, 1) := by decide +kernel
theorem dX7_nextPin_8 : decode cX7_nextPin 8 = .ok (.iload_n 1, 1) := by decide +kernel
theorem dX7_nextPin_9 : decode cX7_nextPin 9 = .ok (.imul, 1) := by decide +kernel
theorem dX7_nextPin_10 : decode cX7_nextPin 10 = .ok (.aload_n 0, 1) := by decide +kernel
theorem dX7_nextPin_11 : decode cX7_nextPin 11 = .ok (.getfield 7, 3) := by decide +kernel
theorem dX7_nextPin_14 : decode cX7_nextPin 14 = .ok (.iload_n 1, 1) := by decide +kernel
theorem dX7_nextPin_15 : decode cX7_nextPin 15 = .ok (.iaload, 1) := by decide +kernel
theorem dX7_nextPin_16 : decode cX7_nextPin 16 = .ok (.iadd, 1) := by decide +kernel
theorem dX7_nextPin_17 : decode cX7_nextPin 17 = .ok (.if_icmp .ge 71, 3) := by decide +kernel
theorem dX7_nextPin_20 : decode cX7_nextPin 20 = .ok (.aload_n 0, 1) := by decide +kernel
theorem dX7_nextPin_21 : decode cX7_nextPin 21 = .ok (.getfield 13, 3) := by decide +kernel
theorem dX7_nextPin_24 : decode cX7_nextPin 24 = .ok (.iload_n 3, 1) := by decide +kernel
theorem dX7_nextPin_25 : decode cX7_nextPin 25 = .ok (.iaload, 1) := by decide +kernel
theorem dX7_nextPin_26 : decode cX7_nextPin 26 = .ok (.istore 4, 2) := by decide +kernel
theorem dX7_nextPin_28 : decode cX7_nextPin 28 = .ok (.aload_n 0, 1) := by decide +kernel
theorem dX7_nextPin_29 : decode cX7_nextPin 29 = .ok (.getfield 60, 3) := by decide +kernel
theorem dX7_nextPin_32 : decode cX7_nextPin 32 = .ok (.iload 4, 2) := by decide +kernel
theorem dX7_nextPin_34 : decode cX7_nextPin 34 = .ok (.baload, 1) := by decide +kernel
theorem dX7_nextPin_35 : decode cX7_nextPin 35 = .ok (.ifCond .ne 47, 3) := by decide +kernel
theorem dX7_nextPin_38 : decode cX7_nextPin 38 = .ok (.aload_n 0, 1) := by decide +kernel
theorem dX7_nextPin_39 : decode cX7_nextPin 39 = .ok (.getfield 57, 3) := by decide +kernel
theorem dX7_nextPin_42 : decode cX7_nextPin 42 = .ok (.iload 4, 2) := by decide +kernel
theorem dX7_nextPin_44 : decode cX7_nextPin 44 = .ok (.laload, 1) := by decide +kernel
theorem dX7_nextPin_45 : decode cX7_nextPin 45 = .ok (.lconst 0, 1) := by decide +kernel
theorem dX7_nextPin_46 : decode cX7_nextPin 46 = .ok (.lcmp, 1) := by decide +kernel
theorem dX7_nextPin_47 : decode cX7_nextPin 47 = .ok (.ifCond .ge 6, 3) := by decide +kernel
theorem dX7_nextPin_50 : decode cX7_nextPin 50 = .ok (.goto 32, 3) := by decide +kernel
theorem dX7_nextPin_53 : decode cX7_nextPin 53 = .ok (.iload_n 2, 1) := by decide +kernel
theorem dX7_nextPin_54 : decode cX7_nextPin 54 = .ok (.iconst (-1), 1) := by decide +kernel
theorem dX7_nextPin_55 : decode cX7_nextPin 55 = .ok (.if_icmp .eq 20, 3) := by decide +kernel
theorem dX7_nextPin_58 : decode cX7_nextPin 58 = .ok (.aload_n 0, 1) := by decide +kernel
theorem dX7_nextPin_59 : decode cX7_nextPin 59 = .ok (.getfield 57, 3) := by decide +kernel
theorem dX7_nextPin_62 : decode cX7_nextPin 62 = .ok (.iload 4, 2) := by decide +kernel
theorem dX7_nextPin_64 : decode cX7_nextPin 64 = .ok (.laload, 1) := by decide +kernel
theorem dX7_nextPin_65 : decode cX7_nextPin 65 = .ok (.aload_n 0, 1) := by decide +kernel
theorem dX7_nextPin_66 : decode cX7_nextPin 66 = .ok (.getfield 57, 3) := by decide +kernel
theorem dX7_nextPin_69 : decode cX7_nextPin 69 = .ok (.iload_n 2, 1) := by decide +kernel
theorem dX7_nextPin_70 : decode cX7_nextPin 70 = .ok (.laload, 1) := by decide +kernel
theorem dX7_nextPin_71 : decode cX7_nextPin 71 = .ok (.lcmp, 1) := by decide +kernel
theorem dX7_nextPin_72 : decode cX7_nextPin 72 = .ok (.ifCond .ge 8, 3) := by decide +kernel
theorem dX7_nextPin_75 : decode cX7_nextPin 75 = .ok (.iload 4, 2) := by decide +kernel
theorem dX7_nextPin_77 : decode cX7_nextPin 77 = .ok (.goto 4, 3) := by decide +kernel
theorem dX7_nextPin_80 : decode cX7_nextPin 80 = .ok (.iload_n 2, 1) := by decide +kernel
theorem dX7_nextPin_81 : decode cX7_nextPin 81 = .ok (.istore_n 2, 1) := by decide +kernel
theorem dX7_nextPin_82 : decode cX7_nextPin 82 = .ok (.iinc 3 1, 3) := by decide +kernel
theorem dX7_nextPin_85 : decode cX7_nextPin 85 = .ok (.goto (-79), 3) := by decide +kernel
theorem dX7_nextPin_88 : decode cX7_nextPin 88 = .ok (.iload_n 2, 1) := by decide +kernel
theorem dX7_nextPin_89 : decode cX7_nextPin 89 = .ok (.ireturn, 1) := by decide +kernel
theorem dX7_opposite_0 : decode cX7_opposite 0 = .ok (.iconst 5, 1) := by decide +kernel
theorem dX7_opposite_1 : decode cX7_opposite 1 = .ok (.iload_n 1, 1) := by decide +kernel
theorem dX7_opposite_2 : decode cX7_opposite 2 = .ok (.isub, 1) := by decide +kernel
theorem dX7_opposite_3 : decode cX7_opposite 3 = .ok (.ireturn, 1) := by decide +kernel
set_option maxRecDepth 20000 in
theorem ggX7_back_X7_neighbour : GoodIn wsX7_back wsX7_neighbour := goodIn_r _ [6, 7, 8, 9, 10, 5, 11, 12, 13, 14, 15, 16, 17, 18, 19, 20, 21, 37, 38, 39, 40, 41, 42, 43, 44, 45, 46, 47, 48, 49, 50, 51, 52, 53, 54, 55, 56, 57, 58, 59, 60, 61] (by decide +kernel) (by decide +kernel)
set_option maxRecDepth 20000 in
theorem gX7_back_X7_neighbour : GoodIn wsX7_back (wsV RX7 110 RX7 yX7_neighbour wsX7_neighbour) := goodIn_app (goodIn_of _ (by decide +kernel)) ggX7_back_X7_neighbour
set_option maxRecDepth 20000 in
theorem ggX7_back_X7_opposite : GoodIn wsX7_back wsX7_opposite := goodIn_r _ [25] (by decide +kernel) (by decide +kernel)
set_option maxRecDepth 20000 in
theorem gX7_back_X7_opposite : GoodIn wsX7_back (wsV RX7 126 RX7 yX7_opposite wsX7_opposite) := goodIn_app (goodIn_of _ (by decide +kernel)) ggX7_back_X7_opposite
set_option maxRecDepth 20000 in
theorem ggX7_back_X7_step : GoodIn wsX7_back wsX7_step := goodIn_r _ [29, 30, 31, 32, 33, 34, 35, 36, 8, 9, 10, 5, 11, 7, 12, 2, 3, 4, 6, 13, 14, 15, 16, 17, 18, 19, 20, 21, 37, 38, 39, 40, 41, 42, 43, 44, 45, 46, 47, 48, 49, 50, 51, 52, 53, 54, 55, 56, 57, 58, 59, 60, 61] (by decide +kernel) (by decide +kernel)
set_option maxRecDepth 20000 in
theorem gX7_back_X7_step : GoodIn wsX7_back (wsV RX7 122 RX7 yX7_step wsX7_step) := goodIn_app (goodIn_of _ (by decide +kernel)) ggX7_back_X7_step
theorem dX7_back_0 : decode cX7_back 0 = .ok (.iconst 0, 1) := by decide +kernel
theorem dX7_back_1 : decode cX7_back 1 = .ok (.istore 4, 2) := by decide +kernel
theorem dX7_back_3 : decode cX7_back 3 = .ok (.iload 4, 2) := by decide +kernel
theorem dX7_back_5 : decode cX7_back 5 = .ok (.bipush 6, 2) := by decide +kernel
theorem dX7_back_7 : decode cX7_back 7 = .ok (.if_icmp .ge 72, 3) := by decide +kernel
theorem dX7_back_10 : decode cX7_back 10 = .ok (.aload_n 0, 1) := by decide +kernel
theorem dX7_back_11 : decode cX7_back 11 = .ok (.iload_n 2, 1) := by decide +kernel
theorem dX7_back_12 : decode cX7_back 12 = .ok (.iload 4, 2) := by decide +kernel
theorem dX7_back_14 : decode cX7_back 14 = .ok (.invokevirtual 110, 3) := by decide +kernel
theorem dX7_back_17 : decode cX7_back 17 = .ok (.istore 5, 2) := by decide +kernel
theorem dX7_back_19 : decode cX7_back 19 = .ok (.iload 5, 2) := by decide +kernel
theorem dX7_back_21 : decode cX7_back 21 = .ok (.iconst (-1), 1) := by decide +kernel
theorem dX7_back_22 : decode cX7_back 22 = .ok (.if_icmp .eq 51, 3) := by decide +kernel
theorem dX7_back_25 : decode cX7_back 25 = .ok (.aload_n 0, 1) := by decide +kernel
theorem dX7_back_26 : decode cX7_back 26 = .ok (.getfield 57, 3) := by decide +kernel
theorem dX7_back_29 : decode cX7_back 29 = .ok (.iload 5, 2) := by decide +kernel
theorem dX7_back_31 : decode cX7_back 31 = .ok (.laload, 1) := by decide +kernel
theorem dX7_back_32 : decode cX7_back 32 = .ok (.lconst 0, 1) := by decide +kernel
theorem dX7_back_33 : decode cX7_back 33 = .ok (.lcmp, 1) := by decide +kernel
theorem dX7_back_34 : decode cX7_back 34 = .ok (.ifCond .lt 39, 3) := by decide +kernel
theorem dX7_back_37 : decode cX7_back 37 = .ok (.aload_n 0, 1) := by decide +kernel
theorem dX7_back_38 : decode cX7_back 38 = .ok (.getfield 57, 3) := by decide +kernel
theorem dX7_back_41 : decode cX7_back 41 = .ok (.iload 5, 2) := by decide +kernel
theorem dX7_back_43 : decode cX7_back 43 = .ok (.laload, 1) := by decide +kernel
theorem dX7_back_44 : decode cX7_back 44 = .ok (.aload_n 0, 1) := by decide +kernel
theorem dX7_back_45 : decode cX7_back 45 = .ok (.iload_n 1, 1) := by decide +kernel
theorem dX7_back_46 : decode cX7_back 46 = .ok (.iload 5, 2) := by decide +kernel
theorem dX7_back_48 : decode cX7_back 48 = .ok (.aload_n 0, 1) := by decide +kernel
theorem dX7_back_49 : decode cX7_back 49 = .ok (.iload 4, 2) := by decide +kernel
theorem dX7_back_51 : decode cX7_back 51 = .ok (.invokevirtual 126, 3) := by decide +kernel
theorem dX7_back_54 : decode cX7_back 54 = .ok (.iload_n 2, 1) := by decide +kernel
theorem dX7_back_55 : decode cX7_back 55 = .ok (.iload_n 3, 1) := by decide +kernel
theorem dX7_back_56 : decode cX7_back 56 = .ok (.invokevirtual 122, 3) := by decide +kernel
theorem dX7_back_59 : decode cX7_back 59 = .ok (.ladd, 1) := by decide +kernel
theorem dX7_back_60 : decode cX7_back 60 = .ok (.aload_n 0, 1) := by decide +kernel
theorem dX7_back_61 : decode cX7_back 61 = .ok (.getfield 57, 3) := by decide +kernel
theorem dX7_back_64 : decode cX7_back 64 = .ok (.iload_n 2, 1) := by decide +kernel
theorem dX7_back_65 : decode cX7_back 65 = .ok (.laload, 1) := by decide +kernel
theorem dX7_back_66 : decode cX7_back 66 = .ok (.lcmp, 1) := by decide +kernel
theorem dX7_back_67 : decode cX7_back 67 = .ok (.ifCond .ne 6, 3) := by decide +kernel
theorem dX7_back_70 : decode cX7_back 70 = .ok (.iload 5, 2) := by decide +kernel
theorem dX7_back_72 : decode cX7_back 72 = .ok (.ireturn, 1) := by decide +kernel
theorem dX7_back_73 : decode cX7_back 73 = .ok (.iinc 4 1, 3) := by decide +kernel
theorem dX7_back_76 : decode cX7_back 76 = .ok (.goto (-73), 3) := by decide +kernel
theorem dX7_back_79 : decode cX7_back 79 = .ok (.iconst (-1), 1) := by decide +kernel
theorem dX7_back_80 : decode cX7_back 80 = .ok (.ireturn, 1) := by decide +kernel
set_option maxRecDepth 20000 in
theorem ggX7_findBlocks_X7_neighbour : GoodIn wsX7_findBlocks wsX7_neighbour := goodIn_r _ [11, 1, 12, 13, 14, 10, 15, 2, 16, 17, 18, 19, 20, 21, 22, 23, 3, 24, 25, 26, 27, 28, 29, 30, 31, 32, 33, 34, 35, 36, 37, 38, 39, 40, 41, 42, 43, 44, 45, 46, 47, 48] (by decide +kernel) (by decide +kernel)
set_option maxRecDepth 20000 in
theorem gX7_findBlocks_X7_neighbour : GoodIn wsX7_findBlocks (wsV RX7 110 RX7 yX7_neighbour wsX7_neighbour) := goodIn_app (goodIn_of _ (by decide +kernel)) ggX7_findBlocks_X7_neighbour
theorem dX7_findBlocks_0 : decode cX7_findBlocks 0 = .ok (.aload_n 0, 1) := by decide +kernel
theorem dX7_findBlocks_1 : decode cX7_findBlocks 1 = .ok (.getfield 66, 3) := by decide +kernel
theorem dX7_findBlocks_4 : decode cX7_findBlocks 4 = .ok (.aload_n 0, 1) := by decide +kernel
theorem dX7_findBlocks_5 : decode cX7_findBlocks 5 = .ok (.getfield 70, 3) := by decide +kernel
theorem dX7_findBlocks_8 : decode cX7_findBlocks 8 = .ok (.imul, 1) := by decide +kernel
theorem dX7_findBlocks_9 : decode cX7_findBlocks 9 = .ok (.aload_n 0, 1) := by decide +kernel
theorem dX7_findBlocks_10 : decode cX7_findBlocks 10 = .ok (.getfield 73, 3) := by decide +kernel
theorem dX7_findBlocks_13 : decode cX7_findBlocks 13 = .ok (.imul, 1) := by decide +kernel
theorem dX7_findBlocks_14 : decode cX7_findBlocks 14 = .ok (.istore_n 2, 1) := by decide +kernel
theorem dX7_findBlocks_15 : decode cX7_findBlocks 15 = .ok (.aload_n 0, 1) := by decide +kernel
theorem dX7_findBlocks_16 : decode cX7_findBlocks 16 = .ok (.getfield 54, 3) := by decide +kernel
theorem dX7_findBlocks_19 : decode cX7_findBlocks 19 = .ok (.iload_n 1, 1) := by decide +kernel
theorem dX7_findBlocks_20 : decode cX7_findBlocks 20 = .ok (.iconst 0, 1) := by decide +kernel
theorem dX7_findBlocks_21 : decode cX7_findBlocks 21 = .ok (.iastore, 1) := by decide +kernel
theorem dX7_findBlocks_22 : decode cX7_findBlocks 22 = .ok (.iconst 0, 1) := by decide +kernel
theorem dX7_findBlocks_23 : decode cX7_findBlocks 23 = .ok (.istore_n 3, 1) := by decide +kernel
theorem dX7_findBlocks_24 : decode cX7_findBlocks 24 = .ok (.iload_n 3, 1) := by decide +kernel
theorem dX7_findBlocks_25 : decode cX7_findBlocks 25 = .ok (.iload_n 2, 1) := by decide +kernel
theorem dX7_findBlocks_26 : decode cX7_findBlocks 26 = .ok (.if_icmp .ge 95, 3) := by decide +kernel
theorem dX7_findBlocks_29 : decode cX7_findBlocks 29 = .ok (.iconst 0, 1) := by decide +kernel
theorem dX7_findBlocks_30 : decode cX7_findBlocks 30 = .ok (.istore 4, 2) := by decide +kernel
theorem dX7_findBlocks_32 : decode cX7_findBlocks 32 = .ok (.iload 4, 2) := by decide +kernel
theorem dX7_findBlocks_34 : decode cX7_findBlocks 34 = .ok (.bipush 6, 2) := by decide +kernel
theorem dX7_findBlocks_36 : decode cX7_findBlocks 36 = .ok (.if_icmp .ge 79, 3) := by decide +kernel
theorem dX7_findBlocks_39 : decode cX7_findBlocks 39 = .ok (.aload_n 0, 1) := by decide +kernel
theorem dX7_findBlocks_40 : decode cX7_findBlocks 40 = .ok (.getfield 57, 3) := by decide +kernel
theorem dX7_findBlocks_43 : decode cX7_findBlocks 43 = .ok (.iload_n 3, 1) := by decide +kernel
theorem dX7_findBlocks_44 : decode cX7_findBlocks 44 = .ok (.laload, 1) := by decide +kernel
theorem dX7_findBlocks_45 : decode cX7_findBlocks 45 = .ok (.lconst 0, 1) := by decide +kernel
theorem dX7_findBlocks_46 : decode cX7_findBlocks 46 = .ok (.lcmp, 1) := by decide +kernel
theorem dX7_findBlocks_47 : decode cX7_findBlocks 47 = .ok (.ifCond .lt 68, 3) := by decide +kernel
theorem dX7_findBlocks_50 : decode cX7_findBlocks 50 = .ok (.aload_n 0, 1) := by decide +kernel
theorem dX7_findBlocks_51 : decode cX7_findBlocks 51 = .ok (.iload_n 3, 1) := by decide +kernel
theorem dX7_findBlocks_52 : decode cX7_findBlocks 52 = .ok (.iload 4, 2) := by decide +kernel
theorem dX7_findBlocks_54 : decode cX7_findBlocks 54 = .ok (.invokevirtual 110, 3) := by decide +kernel
theorem dX7_findBlocks_57 : decode cX7_findBlocks 57 = .ok (.istore 5, 2) := by decide +kernel
theorem dX7_findBlocks_59 : decode cX7_findBlocks 59 = .ok (.iload 5, 2) := by decide +kernel
theorem dX7_findBlocks_61 : decode cX7_findBlocks 61 = .ok (.iconst (-1), 1) := by decide +kernel
theorem dX7_findBlocks_62 : decode cX7_findBlocks 62 = .ok (.if_icmp .eq 47, 3) := by decide +kernel
theorem dX7_findBlocks_65 : decode cX7_findBlocks 65 = .ok (.aload_n 0, 1) := by decide +kernel
theorem dX7_findBlocks_66 : decode cX7_findBlocks 66 = .ok (.getfield 16, 3) := by decide +kernel
theorem dX7_findBlocks_69 : decode cX7_findBlocks 69 = .ok (.iload 5, 2) := by decide +kernel
theorem dX7_findBlocks_71 : decode cX7_findBlocks 71 = .ok (.iaload, 1) := by decide +kernel
theorem dX7_findBlocks_72 : decode cX7_findBlocks 72 = .ok (.iconst (-1), 1) := by decide +kernel
theorem dX7_findBlocks_73 : decode cX7_findBlocks 73 = .ok (.if_icmp .eq 36, 3) := by decide +kernel
theorem dX7_findBlocks_76 : decode cX7_findBlocks 76 = .ok (.aload_n 0, 1) := by decide +kernel
theorem dX7_findBlocks_77 : decode cX7_findBlocks 77 = .ok (.getfield 16, 3) := by decide +kernel
theorem dX7_findBlocks_80 : decode cX7_findBlocks 80 = .ok (.iload 5, 2) := by decide +kernel
theorem dX7_findBlocks_82 : decode cX7_findBlocks 82 = .ok (.iaload, 1) := by decide +kernel
theorem dX7_findBlocks_83 : decode cX7_findBlocks 83 = .ok (.iload_n 1, 1) := by decide +kernel
theorem dX7_findBlocks_84 : decode cX7_findBlocks 84 = .ok (.if_icmp .eq 25, 3) := by decide +kernel
theorem dX7_findBlocks_87 : decode cX7_findBlocks 87 = .ok (.aload_n 0, 1) := by decide +kernel
theorem dX7_findBlocks_88 : decode cX7_findBlocks 88 = .ok (.getfield 54, 3) := by decide +kernel
theorem dX7_findBlocks_91 : decode cX7_findBlocks 91 = .ok (.iload_n 1, 1) := by decide +kernel
theorem dX7_findBlocks_92 : decode cX7_findBlocks 92 = .ok (.aload_n 0, 1) := by decide +kernel
theorem dX7_findBlocks_93 : decode cX7_findBlocks 93 = .ok (.getfield 54, 3) := by decide +kernel
theorem dX7_findBlocks_96 : decode cX7_findBlocks 96 = .ok (.iload_n 1, 1) := by decide +kernel
theorem dX7_findBlocks_97 : decode cX7_findBlocks 97 = .ok (.iaload, 1) := by decide +kernel
theorem dX7_findBlocks_98 : decode cX7_findBlocks 98 = .ok (.iconst 1, 1) := by decide +kernel
theorem dX7_findBlocks_99 : decode cX7_findBlocks 99 = .ok (.aload_n 0, 1) := by decide +kernel
theorem dX7_findBlocks_100 : decode cX7_findBlocks 100 = .ok (.getfield 16, 3) := by decide +kernel
theorem dX7_findBlocks_103 : decode cX7_findBlocks 103 = .ok (.iload 5, 2) := by decide +kernel
theorem dX7_findBlocks_105 : decode cX7_findBlocks 105 = .ok (.iaload, 1) := by decide +kernel
theorem dX7_findBlocks_106 : decode cX7_findBlocks 106 = .ok (.ishl, 1) := by decide +kernel
theorem dX7_findBlocks_107 : decode cX7_findBlocks 107 = .ok (.ior, 1) := by decide +kernel
theorem dX7_findBlocks_108 : decode cX7_findBlocks 108 = .ok (.iastore, 1) := by decide +kernel
theorem dX7_findBlocks_109 : decode cX7_findBlocks 109 = .ok (.iinc 4 1, 3) := by decide +kernel
theorem dX7_findBlocks_112 : decode cX7_findBlocks 112 = .ok (.goto (-80), 3) := by decide +kernel
theorem dX7_findBlocks_115 : decode cX7_findBlocks 115 = .ok (.iinc 3 1, 3) := by decide +kernel
theorem dX7_findBlocks_118 : decode cX7_findBlocks 118 = .ok (.goto (-94), 3) := by decide +kernel
theorem dX7_findBlocks_121 : decode cX7_findBlocks 121 = .ok (.return_, 1) := by decide +kernel
theorem dX7_hasAll_0 : decode cX7_hasAll 0 = .ok (.iconst 1, 1) := by decide +kernel
theorem dX7_hasAll_1 : decode cX7_hasAll 1 = .ok (.istore_n 2, 1) := by decide +kernel
theorem dX7_hasAll_2 : decode cX7_hasAll 2 = .ok (.iconst 5, 1) := by decide +kernel
theorem dX7_hasAll_3 : decode cX7_hasAll 3 = .ok (.iload_n 1, 1) := by decide +kernel
theorem dX7_hasAll_4 : decode cX7_hasAll 4 = .ok (.imul, 1) := by decide +kernel
theorem dX7_hasAll_5 : decode cX7_hasAll 5 = .ok (.istore_n 3, 1) := by decide +kernel
theorem dX7_hasAll_6 : decode cX7_hasAll 6 = .ok (.iload_n 3, 1) := by decide +kernel
theorem dX7_hasAll_7 : decode cX7_hasAll 7 = .ok (.iconst 5, 1) := by decide +kernel
theorem dX7_hasAll_8 : decode cX7_hasAll 8 = .ok (.iload_n 1, 1) := by decide +kernel
theorem dX7_hasAll_9 : decode cX7_hasAll 9 = .ok (.imul, 1) := by decide +kernel
theorem dX7_hasAll_10 : decode cX7_hasAll 10 = .ok (.aload_n 0, 1) := by decide +kernel
theorem dX7_hasAll_11 : decode cX7_hasAll 11 = .ok (.getfield 7, 3) := by decide +kernel
theorem dX7_hasAll_14 : decode cX7_hasAll 14 = .ok (.iload_n 1, 1) := by decide +kernel
theorem dX7_hasAll_15 : decode cX7_hasAll 15 = .ok (.iaload, 1) := by decide +kernel
theorem dX7_hasAll_16 : decode cX7_hasAll 16 = .ok (.iadd, 1) := by decide +kernel
theorem dX7_hasAll_17 : decode cX7_hasAll 17 = .ok (.if_icmp .ge 33, 3) := by decide +kernel
theorem dX7_hasAll_20 : decode cX7_hasAll 20 = .ok (.iload_n 2, 1) := by decide +kernel
theorem dX7_hasAll_21 : decode cX7_hasAll 21 = .ok (.ifCond .eq 21, 3) := by decide +kernel
theorem dX7_hasAll_24 : decode cX7_hasAll 24 = .ok (.aload_n 0, 1) := by decide +kernel
theorem dX7_hasAll_25 : decode cX7_hasAll 25 = .ok (.getfield 60, 3) := by decide +kernel
theorem dX7_hasAll_28 : decode cX7_hasAll 28 = .ok (.aload_n 0, 1) := by decide +kernel
theorem dX7_hasAll_29 : decode cX7_hasAll 29 = .ok (.getfield 13, 3) := by decide +kernel
theorem dX7_hasAll_32 : decode cX7_hasAll 32 = .ok (.iload_n 3, 1) := by decide +kernel
theorem dX7_hasAll_33 : decode cX7_hasAll 33 = .ok (.iaload, 1) := by decide +kernel
theorem dX7_hasAll_34 : decode cX7_hasAll 34 = .ok (.baload, 1) := by decide +kernel
theorem dX7_hasAll_35 : decode cX7_hasAll 35 = .ok (.ifCond .eq 7, 3) := by decide +kernel
theorem dX7_hasAll_38 : decode cX7_hasAll 38 = .ok (.iconst 1, 1) := by decide +kernel
theorem dX7_hasAll_39 : decode cX7_hasAll 39 = .ok (.goto 4, 3) := by decide +kernel
theorem dX7_hasAll_42 : decode cX7_hasAll 42 = .ok (.iconst 0, 1) := by decide +kernel
theorem dX7_hasAll_43 : decode cX7_hasAll 43 = .ok (.istore_n 2, 1) := by decide +kernel
theorem dX7_hasAll_44 : decode cX7_hasAll 44 = .ok (.iinc 3 1, 3) := by decide +kernel
theorem dX7_hasAll_47 : decode cX7_hasAll 47 = .ok (.goto (-41), 3) := by decide +kernel
theorem dX7_hasAll_50 : decode cX7_hasAll 50 = .ok (.iload_n 2, 1) := by decide +kernel
theorem dX7_hasAll_51 : decode cX7_hasAll 51 = .ok (.ireturn, 1) := by decide +kernel
theorem dX7_comes_0 : decode cX7_comes 0 = .ok (.aload_n 0, 1) := by decide +kernel
theorem dX7_comes_1 : decode cX7_comes 1 = .ok (.getfield 60, 3) := by decide +kernel
theorem dX7_comes_4 : decode cX7_comes 4 = .ok (.iload_n 2, 1) := by decide +kernel
theorem dX7_comes_5 : decode cX7_comes 5 = .ok (.iconst 1, 1) := by decide +kernel
theorem dX7_comes_6 : decode cX7_comes 6 = .ok (.bastore, 1) := by decide +kernel
theorem dX7_comes_7 : decode cX7_comes 7 = .ok (.aload_n 0, 1) := by decide +kernel
theorem dX7_comes_8 : decode cX7_comes 8 = .ok (.getfield 45, 3) := by decide +kernel
theorem dX7_comes_11 : decode cX7_comes 11 = .ok (.sipush 1024, 3) := by decide +kernel
theorem dX7_comes_14 : decode cX7_comes 14 = .ok (.iload_n 1, 1) := by decide +kernel
theorem dX7_comes_15 : decode cX7_comes 15 = .ok (.imul, 1) := by decide +kernel
theorem dX7_comes_16 : decode cX7_comes 16 = .ok (.aload_n 0, 1) := by decide +kernel
theorem dX7_comes_17 : decode cX7_comes 17 = .ok (.getfield 42, 3) := by decide +kernel
theorem dX7_comes_20 : decode cX7_comes 20 = .ok (.iload_n 1, 1) := by decide +kernel
theorem dX7_comes_21 : decode cX7_comes 21 = .ok (.iaload, 1) := by decide +kernel
theorem dX7_comes_22 : decode cX7_comes 22 = .ok (.iadd, 1) := by decide +kernel
theorem dX7_comes_23 : decode cX7_comes 23 = .ok (.iload_n 2, 1) := by decide +kernel
theorem dX7_comes_24 : decode cX7_comes 24 = .ok (.iastore, 1) := by decide +kernel
theorem dX7_comes_25 : decode cX7_comes 25 = .ok (.aload_n 0, 1) := by decide +kernel
theorem dX7_comes_26 : decode cX7_comes 26 = .ok (.getfield 42, 3) := by decide +kernel
theorem dX7_comes_29 : decode cX7_comes 29 = .ok (.iload_n 1, 1) := by decide +kernel
theorem dX7_comes_30 : decode cX7_comes 30 = .ok (.dup2, 1) := by decide +kernel
theorem dX7_comes_31 : decode cX7_comes 31 = .ok (.iaload, 1) := by decide +kernel
theorem dX7_comes_32 : decode cX7_comes 32 = .ok (.iconst 1, 1) := by decide +kernel
theorem dX7_comes_33 : decode cX7_comes 33 = .ok (.iadd, 1) := by decide +kernel
theorem dX7_comes_34 : decode cX7_comes 34 = .ok (.iastore, 1) := by decide +kernel
theorem dX7_comes_35 : decode cX7_comes 35 = .ok (.return_, 1) := by decide +kernel
set_option maxRecDepth 20000 in
theorem ggX7_join_X7_back : GoodIn wsX7_join wsX7_back := goodIn_r _ [14, 2, 15, 16, 17, 13, 18, 19, 20, 21, 22, 23, 24, 25, 26, 27, 28, 29, 30, 31, 32, 33, 34, 35, 36, 37, 38, 39, 40, 41, 42, 43, 44, 6, 45, 7, 46, 57, 58, 59, 60, 61, 62, 63, 64, 65, 66, 67, 68, 69, 70, 71, 72, 73, 74, 75, 76, 77, 78, 79, 80, 81] (by decide +kernel) (by decide +kernel)
set_option maxRecDepth 20000 in
theorem gX7_join_X7_back : GoodIn wsX7_join (wsV RX7 129 RX7 yX7_back wsX7_back) := goodIn_app (goodIn_of _ (by decide +kernel)) ggX7_join_X7_back
set_option maxRecDepth 20000 in
theorem ggX7_join_X7_comes : GoodIn wsX7_join wsX7_comes := goodIn_r _ [50, 4, 5, 3, 57, 58, 59, 60, 61, 62, 63, 64, 65, 66, 67, 68, 69, 70, 71, 72, 73, 74, 75, 76, 77, 78, 79, 80, 81] (by decide +kernel) (by decide +kernel)
set_option maxRecDepth 20000 in
theorem gX7_join_X7_comes : GoodIn wsX7_join (wsV RX7 133 RX7 yX7_comes wsX7_comes) := goodIn_app (goodIn_of _ (by decide +kernel)) ggX7_join_X7_comes
set_option maxRecDepth 20000 in
theorem ggX7_join_X7_loosen : GoodIn wsX7_join wsX7_loosen := goodIn_r _ [54, 6, 55, 56, 3, 57, 58, 59, 60, 61, 62, 63, 64, 65, 66, 67, 68, 69, 70, 71, 72, 73, 74, 75, 76, 77, 78, 79, 80, 81] (by decide +kernel) (by decide +kernel)
set_option maxRecDepth 20000 in
theorem gX7_join_X7_loosen : GoodIn wsX7_join (wsV RX7 101 RX7 yX7_loosen wsX7_loosen) := goodIn_app (goodIn_of _ (by decide +kernel)) ggX7_join_X7_loosen
theorem dX7_join_0 : decode cX7_join 0 = .ok (.aload_n 0, 1) := by decide +kernel
theorem dX7_join_1 : decode cX7_join 1 = .ok (.getfield 48, 3) := by decide +kernel
theorem dX7_join_4 : decode cX7_join 4 = .ok (.iload_n 1, 1) := by decide +kernel
theorem dX7_join_5 : decode cX7_join 5 = .ok (.dup2, 1) := by decide +kernel
theorem dX7_join_6 : decode cX7_join 6 = .ok (.laload, 1) := by decide +kernel
theorem dX7_join_7 : decode cX7_join 7 = .ok (.aload_n 0, 1) := by decide +kernel
theorem dX7_join_8 : decode cX7_join 8 = .ok (.getfield 57, 3) := by decide +kernel
theorem dX7_join_11 : decode cX7_join 11 = .ok (.iload_n 2, 1) := by decide +kernel
theorem dX7_join_12 : decode cX7_join 12 = .ok (.laload, 1) := by decide +kernel
theorem dX7_join_13 : decode cX7_join 13 = .ok (.ladd, 1) := by decide +kernel
theorem dX7_join_14 : decode cX7_join 14 = .ok (.lastore, 1) := by decide +kernel
theorem dX7_join_15 : decode cX7_join 15 = .ok (.aload_n 0, 1) := by decide +kernel
theorem dX7_join_16 : decode cX7_join 16 = .ok (.getfield 42, 3) := by decide +kernel
theorem dX7_join_19 : decode cX7_join 19 = .ok (.iload_n 1, 1) := by decide +kernel
theorem dX7_join_20 : decode cX7_join 20 = .ok (.iaload, 1) := by decide +kernel
theorem dX7_join_21 : decode cX7_join 21 = .ok (.istore 4, 2) := by decide +kernel
theorem dX7_join_23 : decode cX7_join 23 = .ok (.iload_n 2, 1) := by decide +kernel
theorem dX7_join_24 : decode cX7_join 24 = .ok (.istore 5, 2) := by decide +kernel
theorem dX7_join_26 : decode cX7_join 26 = .ok (.aload_n 0, 1) := by decide +kernel
theorem dX7_join_27 : decode cX7_join 27 = .ok (.getfield 60, 3) := by decide +kernel
theorem dX7_join_30 : decode cX7_join 30 = .ok (.iload 5, 2) := by decide +kernel
theorem dX7_join_32 : decode cX7_join 32 = .ok (.baload, 1) := by decide +kernel
theorem dX7_join_33 : decode cX7_join 33 = .ok (.ifCond .ne 27, 3) := by decide +kernel
theorem dX7_join_36 : decode cX7_join 36 = .ok (.aload_n 0, 1) := by decide +kernel
theorem dX7_join_37 : decode cX7_join 37 = .ok (.iload_n 1, 1) := by decide +kernel
theorem dX7_join_38 : decode cX7_join 38 = .ok (.iload 5, 2) := by decide +kernel
theorem dX7_join_40 : decode cX7_join 40 = .ok (.iload_n 3, 1) := by decide +kernel
theorem dX7_join_41 : decode cX7_join 41 = .ok (.invokevirtual 129, 3) := by decide +kernel
theorem dX7_join_44 : decode cX7_join 44 = .ok (.istore 6, 2) := by decide +kernel
theorem dX7_join_46 : decode cX7_join 46 = .ok (.aload_n 0, 1) := by decide +kernel
theorem dX7_join_47 : decode cX7_join 47 = .ok (.iload_n 1, 1) := by decide +kernel
theorem dX7_join_48 : decode cX7_join 48 = .ok (.iload 5, 2) := by decide +kernel
theorem dX7_join_50 : decode cX7_join 50 = .ok (.invokevirtual 133, 3) := by decide +kernel
theorem dX7_join_53 : decode cX7_join 53 = .ok (.iload 6, 2) := by decide +kernel
theorem dX7_join_55 : decode cX7_join 55 = .ok (.istore 5, 2) := by decide +kernel
theorem dX7_join_57 : decode cX7_join 57 = .ok (.goto (-31), 3) := by decide +kernel
theorem dX7_join_60 : decode cX7_join 60 = .ok (.iconst 0, 1) := by decide +kernel
theorem dX7_join_61 : decode cX7_join 61 = .ok (.istore 6, 2) := by decide +kernel
theorem dX7_join_63 : decode cX7_join 63 = .ok (.iload 4, 2) := by decide +kernel
theorem dX7_join_65 : decode cX7_join 65 = .ok (.istore 7, 2) := by decide +kernel
theorem dX7_join_67 : decode cX7_join 67 = .ok (.iload 7, 2) := by decide +kernel
theorem dX7_join_69 : decode cX7_join 69 = .ok (.aload_n 0, 1) := by decide +kernel
theorem dX7_join_70 : decode cX7_join 70 = .ok (.getfield 42, 3) := by decide +kernel
theorem dX7_join_73 : decode cX7_join 73 = .ok (.iload_n 1, 1) := by decide +kernel
theorem dX7_join_74 : decode cX7_join 74 = .ok (.iaload, 1) := by decide +kernel
theorem dX7_join_75 : decode cX7_join 75 = .ok (.if_icmp .ge 74, 3) := by decide +kernel
theorem dX7_join_78 : decode cX7_join 78 = .ok (.aload_n 0, 1) := by decide +kernel
theorem dX7_join_79 : decode cX7_join 79 = .ok (.getfield 45, 3) := by decide +kernel
theorem dX7_join_82 : decode cX7_join 82 = .ok (.sipush 1024, 3) := by decide +kernel
theorem dX7_join_85 : decode cX7_join 85 = .ok (.iload_n 1, 1) := by decide +kernel
theorem dX7_join_86 : decode cX7_join 86 = .ok (.imul, 1) := by decide +kernel
theorem dX7_join_87 : decode cX7_join 87 = .ok (.iload 7, 2) := by decide +kernel
theorem dX7_join_89 : decode cX7_join 89 = .ok (.iadd, 1) := by decide +kernel
theorem dX7_join_90 : decode cX7_join 90 = .ok (.iaload, 1) := by decide +kernel
theorem dX7_join_91 : decode cX7_join 91 = .ok (.istore 8, 2) := by decide +kernel
theorem dX7_join_93 : decode cX7_join 93 = .ok (.aload_n 0, 1) := by decide +kernel
theorem dX7_join_94 : decode cX7_join 94 = .ok (.getfield 16, 3) := by decide +kernel
theorem dX7_join_97 : decode cX7_join 97 = .ok (.iload 8, 2) := by decide +kernel
theorem dX7_join_99 : decode cX7_join 99 = .ok (.iaload, 1) := by decide +kernel
theorem dX7_join_100 : decode cX7_join 100 = .ok (.iconst (-1), 1) := by decide +kernel
theorem dX7_join_101 : decode cX7_join 101 = .ok (.if_icmp .eq 42, 3) := by decide +kernel
theorem dX7_join_104 : decode cX7_join 104 = .ok (.aload_n 0, 1) := by decide +kernel
theorem dX7_join_105 : decode cX7_join 105 = .ok (.getfield 16, 3) := by decide +kernel
theorem dX7_join_108 : decode cX7_join 108 = .ok (.iload 8, 2) := by decide +kernel
theorem dX7_join_110 : decode cX7_join 110 = .ok (.iaload, 1) := by decide +kernel
theorem dX7_join_111 : decode cX7_join 111 = .ok (.iload_n 1, 1) := by decide +kernel
theorem dX7_join_112 : decode cX7_join 112 = .ok (.if_icmp .ne 6, 3) := by decide +kernel
theorem dX7_join_115 : decode cX7_join 115 = .ok (.goto 28, 3) := by decide +kernel
theorem dX7_join_118 : decode cX7_join 118 = .ok (.iload 6, 2) := by decide +kernel
theorem dX7_join_120 : decode cX7_join 120 = .ok (.iconst 1, 1) := by decide +kernel
theorem dX7_join_121 : decode cX7_join 121 = .ok (.aload_n 0, 1) := by decide +kernel
theorem dX7_join_122 : decode cX7_join 122 = .ok (.getfield 16, 3) := by decide +kernel
theorem dX7_join_125 : decode cX7_join 125 = .ok (.iload 8, 2) := by decide +kernel
theorem dX7_join_127 : decode cX7_join 127 = .ok (.iaload, 1) := by decide +kernel
theorem dX7_join_128 : decode cX7_join 128 = .ok (.ishl, 1) := by decide +kernel
theorem dX7_join_129 : decode cX7_join 129 = .ok (.ior, 1) := by decide +kernel
theorem dX7_join_130 : decode cX7_join 130 = .ok (.istore 6, 2) := by decide +kernel
theorem dX7_join_132 : decode cX7_join 132 = .ok (.aload_n 0, 1) := by decide +kernel
theorem dX7_join_133 : decode cX7_join 133 = .ok (.getfield 26, 3) := by decide +kernel
theorem dX7_join_136 : decode cX7_join 136 = .ok (.iload 8, 2) := by decide +kernel
theorem dX7_join_138 : decode cX7_join 138 = .ok (.dup2, 1) := by decide +kernel
theorem dX7_join_139 : decode cX7_join 139 = .ok (.laload, 1) := by decide +kernel
theorem dX7_join_140 : decode cX7_join 140 = .ok (.lconst 1, 1) := by decide +kernel
theorem dX7_join_141 : decode cX7_join 141 = .ok (.ladd, 1) := by decide +kernel
theorem dX7_join_142 : decode cX7_join 142 = .ok (.lastore, 1) := by decide +kernel
theorem dX7_join_143 : decode cX7_join 143 = .ok (.iinc 7 1, 3) := by decide +kernel
theorem dX7_join_146 : decode cX7_join 146 = .ok (.goto (-79), 3) := by decide +kernel
theorem dX7_join_149 : decode cX7_join 149 = .ok (.iconst 0, 1) := by decide +kernel
theorem dX7_join_150 : decode cX7_join 150 = .ok (.istore 7, 2) := by decide +kernel
theorem dX7_join_152 : decode cX7_join 152 = .ok (.iload 7, 2) := by decide +kernel
theorem dX7_join_154 : decode cX7_join 154 = .ok (.aload_n 0, 1) := by decide +kernel
theorem dX7_join_155 : decode cX7_join 155 = .ok (.getfield 94, 3) := by decide +kernel
theorem dX7_join_158 : decode cX7_join 158 = .ok (.if_icmp .ge 39, 3) := by decide +kernel
theorem dX7_join_161 : decode cX7_join 161 = .ok (.iload 6, 2) := by decide +kernel
theorem dX7_join_163 : decode cX7_join 163 = .ok (.iload 7, 2) := by decide +kernel
theorem dX7_join_165 : decode cX7_join 165 = .ok (.ishr, 1) := by decide +kernel
theorem dX7_join_166 : decode cX7_join 166 = .ok (.iconst 1, 1) := by decide +kernel
theorem dX7_join_167 : decode cX7_join 167 = .ok (.iand, 1) := by decide +kernel
theorem dX7_join_168 : decode cX7_join 168 = .ok (.ifCond .ne 6, 3) := by decide +kernel
theorem dX7_join_171 : decode cX7_join 171 = .ok (.goto 20, 3) := by decide +kernel
theorem dX7_join_174 : decode cX7_join 174 = .ok (.aload_n 0, 1) := by decide +kernel
theorem dX7_join_175 : decode cX7_join 175 = .ok (.iload 7, 2) := by decide +kernel
theorem dX7_join_177 : decode cX7_join 177 = .ok (.invokevirtual 101, 3) := by decide +kernel
theorem dX7_join_180 : decode cX7_join 180 = .ok (.aload_n 0, 1) := by decide +kernel
theorem dX7_join_181 : decode cX7_join 181 = .ok (.getfield 51, 3) := by decide +kernel
theorem dX7_join_184 : decode cX7_join 184 = .ok (.iload 7, 2) := by decide +kernel
theorem dX7_join_186 : decode cX7_join 186 = .ok (.dup2, 1) := by decide +kernel
theorem dX7_join_187 : decode cX7_join 187 = .ok (.iaload, 1) := by decide +kernel
theorem dX7_join_188 : decode cX7_join 188 = .ok (.iconst 1, 1) := by decide +kernel
theorem dX7_join_189 : decode cX7_join 189 = .ok (.iadd, 1) := by decide +kernel
theorem dX7_join_190 : decode cX7_join 190 = .ok (.iastore, 1) := by decide +kernel
theorem dX7_join_191 : decode cX7_join 191 = .ok (.iinc 7 1, 3) := by decide +kernel
theorem dX7_join_194 : decode cX7_join 194 = .ok (.goto (-42), 3) := by decide +kernel
theorem dX7_join_197 : decode cX7_join 197 = .ok (.iload 4, 2) := by decide +kernel
theorem dX7_join_199 : decode cX7_join 199 = .ok (.istore 7, 2) := by decide +kernel
theorem dX7_join_201 : decode cX7_join 201 = .ok (.iload 7, 2) := by decide +kernel
theorem dX7_join_203 : decode cX7_join 203 = .ok (.aload_n 0, 1) := by decide +kernel
theorem dX7_join_204 : decode cX7_join 204 = .ok (.getfield 42, 3) := by decide +kernel
theorem dX7_join_207 : decode cX7_join 207 = .ok (.iload_n 1, 1) := by decide +kernel
theorem dX7_join_208 : decode cX7_join 208 = .ok (.iaload, 1) := by decide +kernel
theorem dX7_join_209 : decode cX7_join 209 = .ok (.if_icmp .ge 28, 3) := by decide +kernel
theorem dX7_join_212 : decode cX7_join 212 = .ok (.aload_n 0, 1) := by decide +kernel
theorem dX7_join_213 : decode cX7_join 213 = .ok (.getfield 16, 3) := by decide +kernel
theorem dX7_join_216 : decode cX7_join 216 = .ok (.aload_n 0, 1) := by decide +kernel
theorem dX7_join_217 : decode cX7_join 217 = .ok (.getfield 45, 3) := by decide +kernel
theorem dX7_join_220 : decode cX7_join 220 = .ok (.sipush 1024, 3) := by decide +kernel
theorem dX7_join_223 : decode cX7_join 223 = .ok (.iload_n 1, 1) := by decide +kernel
theorem dX7_join_224 : decode cX7_join 224 = .ok (.imul, 1) := by decide +kernel
theorem dX7_join_225 : decode cX7_join 225 = .ok (.iload 7, 2) := by decide +kernel
theorem dX7_join_227 : decode cX7_join 227 = .ok (.iadd, 1) := by decide +kernel
theorem dX7_join_228 : decode cX7_join 228 = .ok (.iaload, 1) := by decide +kernel
theorem dX7_join_229 : decode cX7_join 229 = .ok (.iload_n 1, 1) := by decide +kernel
theorem dX7_join_230 : decode cX7_join 230 = .ok (.iastore, 1) := by decide +kernel
theorem dX7_join_231 : decode cX7_join 231 = .ok (.iinc 7 1, 3) := by decide +kernel
theorem dX7_join_234 : decode cX7_join 234 = .ok (.goto (-33), 3) := by decide +kernel
theorem dX7_join_237 : decode cX7_join 237 = .ok (.return_, 1) := by decide +kernel
set_option maxRecDepth 20000 in
theorem ggX7_lead_X7_comes : GoodIn wsX7_lead wsX7_comes := goodIn_r _ [11, 4, 12, 3, 86, 87, 88, 89, 90, 91, 92, 93, 94, 95, 96, 97, 98, 99, 100, 101, 102, 103, 104, 105, 106, 107, 108, 109, 110] (by decide +kernel) (by decide +kernel)
set_option maxRecDepth 20000 in
theorem gX7_lead_X7_comes : GoodIn wsX7_lead (wsV RX7 133 RX7 yX7_comes wsX7_comes) := goodIn_app (goodIn_of _ (by decide +kernel)) ggX7_lead_X7_comes
set_option maxRecDepth 20000 in
theorem ggX7_lead_X7_hasAll : GoodIn wsX7_lead wsX7_hasAll := goodIn_r _ [16, 17, 4, 5, 86, 87, 88, 89, 90, 91, 92, 93, 94, 95, 96, 97, 98, 99, 100, 101, 102, 103, 104, 105, 106, 107, 108, 109, 110] (by decide +kernel) (by decide +kernel)
set_option maxRecDepth 20000 in
theorem gX7_lead_X7_hasAll : GoodIn wsX7_lead (wsV RX7 137 RX7 yX7_hasAll wsX7_hasAll) := goodIn_app (goodIn_of _ (by decide +kernel)) ggX7_lead_X7_hasAll
set_option maxRecDepth 20000 in
theorem ggX7_lead_X7_search : GoodIn wsX7_lead wsX7_search := goodIn_r _ [21, 22, 23, 24, 25, 4, 26, 27, 28, 29, 10, 30, 31, 32, 33, 34, 35, 36, 37, 38, 39, 40, 41, 42, 43, 44, 45, 46, 47, 48, 49, 50, 51, 52, 53, 54, 55, 56, 57, 58, 59, 86, 87, 88, 89, 90, 91, 92, 93, 94, 95, 96, 97, 98, 99, 100, 101, 102, 103, 104, 105, 106, 107, 108, 109, 110] (by decide +kernel) (by decide +kernel)
set_option maxRecDepth 20000 in
theorem gX7_lead_X7_search : GoodIn wsX7_lead (wsV RX7 140 RX7 yX7_search wsX7_search) := goodIn_app (goodIn_of _ (by decide +kernel)) ggX7_lead_X7_search
set_option maxRecDepth 20000 in
theorem ggX7_lead_X7_nextPin : GoodIn wsX7_lead wsX7_nextPin := goodIn_r _ [63, 17, 5, 4, 25, 86, 87, 88, 89, 90, 91, 92, 93, 94, 95, 96, 97, 98, 99, 100, 101, 102, 103, 104, 105, 106, 107, 108, 109, 110] (by decide +kernel) (by decide +kernel)
set_option maxRecDepth 20000 in
theorem gX7_lead_X7_nextPin : GoodIn wsX7_lead (wsV RX7 144 RX7 yX7_nextPin wsX7_nextPin) := goodIn_app (goodIn_of _ (by decide +kernel)) ggX7_lead_X7_nextPin
set_option maxRecDepth 20000 in
theorem ggX7_lead_X7_findBlocks : GoodIn wsX7_lead wsX7_findBlocks := goodIn_r _ [67, 22, 23, 24, 1, 25, 48, 27, 28, 29, 10, 30, 31, 32, 33, 34, 35, 36, 37, 38, 39, 40, 41, 42, 86, 87, 88, 89, 90, 91, 92, 93, 94, 95, 96, 97, 98, 99, 100, 101, 102, 103, 104, 105, 106, 107, 108, 109, 110] (by decide +kernel) (by decide +kernel)
set_option maxRecDepth 20000 in
theorem gX7_lead_X7_findBlocks : GoodIn wsX7_lead (wsV RX7 147 RX7 yX7_findBlocks wsX7_findBlocks) := goodIn_app (goodIn_of _ (by decide +kernel)) ggX7_lead_X7_findBlocks
set_option maxRecDepth 20000 in
theorem ggX7_lead_X7_loosen : GoodIn wsX7_lead wsX7_loosen := goodIn_r _ [71, 48, 49, 6, 3, 86, 87, 88, 89, 90, 91, 92, 93, 94, 95, 96, 97, 98, 99, 100, 101, 102, 103, 104, 105, 106, 107, 108, 109, 110] (by decide +kernel) (by decide +kernel)
set_option maxRecDepth 20000 in
theorem gX7_lead_X7_loosen : GoodIn wsX7_lead (wsV RX7 101 RX7 yX7_loosen wsX7_loosen) := goodIn_app (goodIn_of _ (by decide +kernel)) ggX7_lead_X7_loosen
set_option maxRecDepth 20000 in
theorem ggX7_lead_X7_join : GoodIn wsX7_lead wsX7_join := goodIn_r _ [75, 2, 25, 3, 4, 12, 48, 58, 76, 77, 78, 79, 80, 10, 81, 27, 28, 29, 30, 22, 31, 32, 33, 34, 23, 35, 36, 37, 38, 39, 40, 41, 42, 24, 82, 83, 84, 85, 50, 51, 52, 53, 54, 55, 56, 57, 59, 7, 8, 9, 11, 68, 69, 70, 71, 49, 6, 86, 87, 88, 89, 90, 91, 92, 93, 94, 95, 96, 97, 98, 99, 100, 101, 102, 103, 104, 105, 106, 107, 108, 109, 110] (by decide +kernel) (by decide +kernel)
set_option maxRecDepth 20000 in
theorem gX7_lead_X7_join : GoodIn wsX7_lead (wsV RX7 150 RX7 yX7_join wsX7_join) := goodIn_app (goodIn_of _ (by decide +kernel)) ggX7_lead_X7_join
theorem dX7_lead_0 : decode cX7_lead 0 = .ok (.aload_n 0, 1) := by decide +kernel
theorem dX7_lead_1 : decode cX7_lead 1 = .ok (.getfield 54, 3) := by decide +kernel
theorem dX7_lead_4 : decode cX7_lead 4 = .ok (.iload_n 1, 1) := by decide +kernel
theorem dX7_lead_5 : decode cX7_lead 5 = .ok (.iconst 0, 1) := by decide +kernel
theorem dX7_lead_6 : decode cX7_lead 6 = .ok (.iastore, 1) := by decide +kernel
theorem dX7_lead_7 : decode cX7_lead 7 = .ok (.aload_n 0, 1) := by decide +kernel
theorem dX7_lead_8 : decode cX7_lead 8 = .ok (.getfield 48, 3) := by decide +kernel
theorem dX7_lead_11 : decode cX7_lead 11 = .ok (.iload_n 1, 1) := by decide +kernel
theorem dX7_lead_12 : decode cX7_lead 12 = .ok (.lconst 0, 1) := by decide +kernel
theorem dX7_lead_13 : decode cX7_lead 13 = .ok (.lastore, 1) := by decide +kernel
theorem dX7_lead_14 : decode cX7_lead 14 = .ok (.aload_n 0, 1) := by decide +kernel
theorem dX7_lead_15 : decode cX7_lead 15 = .ok (.getfield 42, 3) := by decide +kernel
theorem dX7_lead_18 : decode cX7_lead 18 = .ok (.iload_n 1, 1) := by decide +kernel
theorem dX7_lead_19 : decode cX7_lead 19 = .ok (.iconst 0, 1) := by decide +kernel
theorem dX7_lead_20 : decode cX7_lead 20 = .ok (.iastore, 1) := by decide +kernel
theorem dX7_lead_21 : decode cX7_lead 21 = .ok (.iconst 0, 1) := by decide +kernel
theorem dX7_lead_22 : decode cX7_lead 22 = .ok (.istore_n 2, 1) := by decide +kernel
theorem dX7_lead_23 : decode cX7_lead 23 = .ok (.iload_n 2, 1) := by decide +kernel
theorem dX7_lead_24 : decode cX7_lead 24 = .ok (.sipush 1024, 3) := by decide +kernel
theorem dX7_lead_27 : decode cX7_lead 27 = .ok (.if_icmp .ge 16, 3) := by decide +kernel
theorem dX7_lead_30 : decode cX7_lead 30 = .ok (.aload_n 0, 1) := by decide +kernel
theorem dX7_lead_31 : decode cX7_lead 31 = .ok (.getfield 60, 3) := by decide +kernel
theorem dX7_lead_34 : decode cX7_lead 34 = .ok (.iload_n 2, 1) := by decide +kernel
theorem dX7_lead_35 : decode cX7_lead 35 = .ok (.iconst 0, 1) := by decide +kernel
theorem dX7_lead_36 : decode cX7_lead 36 = .ok (.bastore, 1) := by decide +kernel
theorem dX7_lead_37 : decode cX7_lead 37 = .ok (.iinc 2 1, 3) := by decide +kernel
theorem dX7_lead_40 : decode cX7_lead 40 = .ok (.goto (-17), 3) := by decide +kernel
theorem dX7_lead_43 : decode cX7_lead 43 = .ok (.aload_n 0, 1) := by decide +kernel
theorem dX7_lead_44 : decode cX7_lead 44 = .ok (.iload_n 1, 1) := by decide +kernel
theorem dX7_lead_45 : decode cX7_lead 45 = .ok (.aload_n 0, 1) := by decide +kernel
theorem dX7_lead_46 : decode cX7_lead 46 = .ok (.getfield 13, 3) := by decide +kernel
theorem dX7_lead_49 : decode cX7_lead 49 = .ok (.iconst 5, 1) := by decide +kernel
theorem dX7_lead_50 : decode cX7_lead 50 = .ok (.iload_n 1, 1) := by decide +kernel
theorem dX7_lead_51 : decode cX7_lead 51 = .ok (.imul, 1) := by decide +kernel
theorem dX7_lead_52 : decode cX7_lead 52 = .ok (.iaload, 1) := by decide +kernel
theorem dX7_lead_53 : decode cX7_lead 53 = .ok (.invokevirtual 133, 3) := by decide +kernel
theorem dX7_lead_56 : decode cX7_lead 56 = .ok (.aload_n 0, 1) := by decide +kernel
theorem dX7_lead_57 : decode cX7_lead 57 = .ok (.iload_n 1, 1) := by decide +kernel
theorem dX7_lead_58 : decode cX7_lead 58 = .ok (.invokevirtual 137, 3) := by decide +kernel
theorem dX7_lead_61 : decode cX7_lead 61 = .ok (.ifCond .ne 75, 3) := by decide +kernel
theorem dX7_lead_64 : decode cX7_lead 64 = .ok (.aload_n 0, 1) := by decide +kernel
theorem dX7_lead_65 : decode cX7_lead 65 = .ok (.iload_n 1, 1) := by decide +kernel
theorem dX7_lead_66 : decode cX7_lead 66 = .ok (.iconst 0, 1) := by decide +kernel
theorem dX7_lead_67 : decode cX7_lead 67 = .ok (.invokevirtual 140, 3) := by decide +kernel
theorem dX7_lead_70 : decode cX7_lead 70 = .ok (.aload_n 0, 1) := by decide +kernel
theorem dX7_lead_71 : decode cX7_lead 71 = .ok (.iload_n 1, 1) := by decide +kernel
theorem dX7_lead_72 : decode cX7_lead 72 = .ok (.invokevirtual 144, 3) := by decide +kernel
theorem dX7_lead_75 : decode cX7_lead 75 = .ok (.istore_n 2, 1) := by decide +kernel
theorem dX7_lead_76 : decode cX7_lead 76 = .ok (.iload_n 2, 1) := by decide +kernel
theorem dX7_lead_77 : decode cX7_lead 77 = .ok (.iconst (-1), 1) := by decide +kernel
theorem dX7_lead_78 : decode cX7_lead 78 = .ok (.if_icmp .ne 7, 3) := by decide +kernel
theorem dX7_lead_81 : decode cX7_lead 81 = .ok (.iconst 1, 1) := by decide +kernel
theorem dX7_lead_82 : decode cX7_lead 82 = .ok (.goto 4, 3) := by decide +kernel
theorem dX7_lead_85 : decode cX7_lead 85 = .ok (.iconst 0, 1) := by decide +kernel
theorem dX7_lead_86 : decode cX7_lead 86 = .ok (.istore_n 3, 1) := by decide +kernel
theorem dX7_lead_87 : decode cX7_lead 87 = .ok (.iload_n 3, 1) := by decide +kernel
theorem dX7_lead_88 : decode cX7_lead 88 = .ok (.ifCond .eq 38, 3) := by decide +kernel
theorem dX7_lead_91 : decode cX7_lead 91 = .ok (.aload_n 0, 1) := by decide +kernel
theorem dX7_lead_92 : decode cX7_lead 92 = .ok (.iload_n 1, 1) := by decide +kernel
theorem dX7_lead_93 : decode cX7_lead 93 = .ok (.invokevirtual 147, 3) := by decide +kernel
theorem dX7_lead_96 : decode cX7_lead 96 = .ok (.aload_n 0, 1) := by decide +kernel
theorem dX7_lead_97 : decode cX7_lead 97 = .ok (.iload_n 1, 1) := by decide +kernel
theorem dX7_lead_98 : decode cX7_lead 98 = .ok (.iconst 1, 1) := by decide +kernel
theorem dX7_lead_99 : decode cX7_lead 99 = .ok (.invokevirtual 140, 3) := by decide +kernel
theorem dX7_lead_102 : decode cX7_lead 102 = .ok (.aload_n 0, 1) := by decide +kernel
theorem dX7_lead_103 : decode cX7_lead 103 = .ok (.iload_n 1, 1) := by decide +kernel
theorem dX7_lead_104 : decode cX7_lead 104 = .ok (.invokevirtual 144, 3) := by decide +kernel
theorem dX7_lead_107 : decode cX7_lead 107 = .ok (.istore_n 2, 1) := by decide +kernel
theorem dX7_lead_108 : decode cX7_lead 108 = .ok (.iload_n 2, 1) := by decide +kernel
theorem dX7_lead_109 : decode cX7_lead 109 = .ok (.iconst (-1), 1) := by decide +kernel
theorem dX7_lead_110 : decode cX7_lead 110 = .ok (.if_icmp .ne 9, 3) := by decide +kernel
theorem dX7_lead_113 : decode cX7_lead 113 = .ok (.aload_n 0, 1) := by decide +kernel
theorem dX7_lead_114 : decode cX7_lead 114 = .ok (.iload_n 1, 1) := by decide +kernel
theorem dX7_lead_115 : decode cX7_lead 115 = .ok (.invokevirtual 101, 3) := by decide +kernel
theorem dX7_lead_118 : decode cX7_lead 118 = .ok (.return_, 1) := by decide +kernel
theorem dX7_lead_119 : decode cX7_lead 119 = .ok (.aload_n 0, 1) := by decide +kernel
theorem dX7_lead_120 : decode cX7_lead 120 = .ok (.getfield 54, 3) := by decide +kernel
theorem dX7_lead_123 : decode cX7_lead 123 = .ok (.iload_n 1, 1) := by decide +kernel
theorem dX7_lead_124 : decode cX7_lead 124 = .ok (.iconst 0, 1) := by decide +kernel
theorem dX7_lead_125 : decode cX7_lead 125 = .ok (.iastore, 1) := by decide +kernel
theorem dX7_lead_126 : decode cX7_lead 126 = .ok (.aload_n 0, 1) := by decide +kernel
theorem dX7_lead_127 : decode cX7_lead 127 = .ok (.iload_n 1, 1) := by decide +kernel
theorem dX7_lead_128 : decode cX7_lead 128 = .ok (.iload_n 2, 1) := by decide +kernel
theorem dX7_lead_129 : decode cX7_lead 129 = .ok (.iload_n 3, 1) := by decide +kernel
theorem dX7_lead_130 : decode cX7_lead 130 = .ok (.invokevirtual 150, 3) := by decide +kernel
theorem dX7_lead_133 : decode cX7_lead 133 = .ok (.goto (-77), 3) := by decide +kernel
theorem dX7_lead_136 : decode cX7_lead 136 = .ok (.aload_n 0, 1) := by decide +kernel
theorem dX7_lead_137 : decode cX7_lead 137 = .ok (.getfield 39, 3) := by decide +kernel
theorem dX7_lead_140 : decode cX7_lead 140 = .ok (.iload_n 1, 1) := by decide +kernel
theorem dX7_lead_141 : decode cX7_lead 141 = .ok (.iconst 1, 1) := by decide +kernel
theorem dX7_lead_142 : decode cX7_lead 142 = .ok (.bastore, 1) := by decide +kernel
theorem dX7_lead_143 : decode cX7_lead 143 = .ok (.return_, 1) := by decide +kernel
theorem dX7_isOpen_0 : decode cX7_isOpen 0 = .ok (.aload_n 0, 1) := by decide +kernel
theorem dX7_isOpen_1 : decode cX7_isOpen 1 = .ok (.getfield 7, 3) := by decide +kernel
theorem dX7_isOpen_4 : decode cX7_isOpen 4 = .ok (.iload_n 1, 1) := by decide +kernel
theorem dX7_isOpen_5 : decode cX7_isOpen 5 = .ok (.iaload, 1) := by decide +kernel
theorem dX7_isOpen_6 : decode cX7_isOpen 6 = .ok (.ifCond .le 16, 3) := by decide +kernel
theorem dX7_isOpen_9 : decode cX7_isOpen 9 = .ok (.aload_n 0, 1) := by decide +kernel
theorem dX7_isOpen_10 : decode cX7_isOpen 10 = .ok (.getfield 39, 3) := by decide +kernel
theorem dX7_isOpen_13 : decode cX7_isOpen 13 = .ok (.iload_n 1, 1) := by decide +kernel
theorem dX7_isOpen_14 : decode cX7_isOpen 14 = .ok (.baload, 1) := by decide +kernel
theorem dX7_isOpen_15 : decode cX7_isOpen 15 = .ok (.ifCond .ne 7, 3) := by decide +kernel
theorem dX7_isOpen_18 : decode cX7_isOpen 18 = .ok (.iconst 1, 1) := by decide +kernel
theorem dX7_isOpen_19 : decode cX7_isOpen 19 = .ok (.goto 4, 3) := by decide +kernel
theorem dX7_isOpen_22 : decode cX7_isOpen 22 = .ok (.iconst 0, 1) := by decide +kernel
theorem dX7_isOpen_23 : decode cX7_isOpen 23 = .ok (.ireturn, 1) := by decide +kernel
theorem dX7_draw_0 : decode cX7_draw 0 = .ok (.aload_n 0, 1) := by decide +kernel
theorem dX7_draw_1 : decode cX7_draw 1 = .ok (.aload_n 0, 1) := by decide +kernel
theorem dX7_draw_2 : decode cX7_draw 2 = .ok (.getfield 76, 3) := by decide +kernel
theorem dX7_draw_5 : decode cX7_draw 5 = .ok (.ldc2_w 154, 3) := by decide +kernel
theorem dX7_draw_8 : decode cX7_draw 8 = .ok (.lmul, 1) := by decide +kernel
theorem dX7_draw_9 : decode cX7_draw 9 = .ok (.ldc2_w 156, 3) := by decide +kernel
theorem dX7_draw_12 : decode cX7_draw 12 = .ok (.ladd, 1) := by decide +kernel
theorem dX7_draw_13 : decode cX7_draw 13 = .ok (.putfield 76, 3) := by decide +kernel
theorem dX7_draw_16 : decode cX7_draw 16 = .ok (.aload_n 0, 1) := by decide +kernel
theorem dX7_draw_17 : decode cX7_draw 17 = .ok (.getfield 76, 3) := by decide +kernel
theorem dX7_draw_20 : decode cX7_draw 20 = .ok (.bipush 33, 2) := by decide +kernel
theorem dX7_draw_22 : decode cX7_draw 22 = .ok (.lushr, 1) := by decide +kernel
theorem dX7_draw_23 : decode cX7_draw 23 = .ok (.lreturn, 1) := by decide +kernel
set_option maxRecDepth 20000 in
theorem ggX7_openCount_X7_isOpen : GoodIn wsX7_openCount wsX7_isOpen := goodIn_r _ [6, 7, 8, 9, 10, 11, 12, 13, 14, 15, 16, 17, 18, 19, 20, 21, 22, 23, 24, 25, 26, 27, 28, 29, 30, 31, 32, 33] (by decide +kernel) (by decide +kernel)
set_option maxRecDepth 20000 in
theorem gX7_openCount_X7_isOpen : GoodIn wsX7_openCount (wsV RX7 158 RX7 yX7_isOpen wsX7_isOpen) := goodIn_app (goodIn_of _ (by decide +kernel)) ggX7_openCount_X7_isOpen
theorem dX7_openCount_0 : decode cX7_openCount 0 = .ok (.iconst 0, 1) := by decide +kernel
theorem dX7_openCount_1 : decode cX7_openCount 1 = .ok (.istore_n 1, 1) := by decide +kernel
theorem dX7_openCount_2 : decode cX7_openCount 2 = .ok (.iconst 0, 1) := by decide +kernel
theorem dX7_openCount_3 : decode cX7_openCount 3 = .ok (.istore_n 2, 1) := by decide +kernel
theorem dX7_openCount_4 : decode cX7_openCount 4 = .ok (.iload_n 2, 1) := by decide +kernel
theorem dX7_openCount_5 : decode cX7_openCount 5 = .ok (.aload_n 0, 1) := by decide +kernel
theorem dX7_openCount_6 : decode cX7_openCount 6 = .ok (.getfield 94, 3) := by decide +kernel
theorem dX7_openCount_9 : decode cX7_openCount 9 = .ok (.if_icmp .ge 25, 3) := by decide +kernel
theorem dX7_openCount_12 : decode cX7_openCount 12 = .ok (.iload_n 1, 1) := by decide +kernel
theorem dX7_openCount_13 : decode cX7_openCount 13 = .ok (.aload_n 0, 1) := by decide +kernel
theorem dX7_openCount_14 : decode cX7_openCount 14 = .ok (.iload_n 2, 1) := by decide +kernel
theorem dX7_openCount_15 : decode cX7_openCount 15 = .ok (.invokevirtual 158, 3) := by decide +kernel
theorem dX7_openCount_18 : decode cX7_openCount 18 = .ok (.ifCond .eq 7, 3) := by decide +kernel
theorem dX7_openCount_21 : decode cX7_openCount 21 = .ok (.iconst 1, 1) := by decide +kernel
theorem dX7_openCount_22 : decode cX7_openCount 22 = .ok (.goto 4, 3) := by decide +kernel
theorem dX7_openCount_25 : decode cX7_openCount 25 = .ok (.iconst 0, 1) := by decide +kernel
theorem dX7_openCount_26 : decode cX7_openCount 26 = .ok (.iadd, 1) := by decide +kernel
theorem dX7_openCount_27 : decode cX7_openCount 27 = .ok (.istore_n 1, 1) := by decide +kernel
theorem dX7_openCount_28 : decode cX7_openCount 28 = .ok (.iinc 2 1, 3) := by decide +kernel
theorem dX7_openCount_31 : decode cX7_openCount 31 = .ok (.goto (-27), 3) := by decide +kernel
theorem dX7_openCount_34 : decode cX7_openCount 34 = .ok (.iload_n 1, 1) := by decide +kernel
theorem dX7_openCount_35 : decode cX7_openCount 35 = .ok (.ireturn, 1) := by decide +kernel
set_option maxRecDepth 20000 in
theorem ggX7_turn_X7_isOpen : GoodIn wsX7_turn wsX7_isOpen := goodIn_r _ [8, 9, 10, 103, 104, 105, 106, 107, 108, 109, 110, 111, 112, 113, 114, 115, 116, 117, 118, 119, 120, 121, 122, 123, 124, 125, 126, 127] (by decide +kernel) (by decide +kernel)
set_option maxRecDepth 20000 in
theorem gX7_turn_X7_isOpen : GoodIn wsX7_turn (wsV RX7 158 RX7 yX7_isOpen wsX7_isOpen) := goodIn_app (goodIn_of _ (by decide +kernel)) ggX7_turn_X7_isOpen
set_option maxRecDepth 20000 in
theorem ggX7_turn_X7_draw : GoodIn wsX7_turn wsX7_draw := goodIn_r _ [14, 15, 16, 17, 103, 104, 105, 106, 107, 108, 109, 110, 111, 112, 113, 114, 115, 116, 117, 118, 119, 120, 121, 122, 123, 124, 125, 126, 127] (by decide +kernel) (by decide +kernel)
set_option maxRecDepth 20000 in
theorem gX7_turn_X7_draw : GoodIn wsX7_turn (wsV RX7 161 RX7 yX7_draw wsX7_draw) := goodIn_app (goodIn_of _ (by decide +kernel)) ggX7_turn_X7_draw
set_option maxRecDepth 20000 in
theorem ggX7_turn_X7_lead : GoodIn wsX7_turn wsX7_lead := goodIn_r _ [21, 22, 23, 24, 25, 26, 10, 27, 28, 29, 7, 30, 31, 32, 33, 34, 35, 9, 36, 37, 38, 39, 40, 41, 42, 43, 44, 45, 46, 47, 48, 49, 50, 51, 52, 53, 54, 55, 56, 57, 58, 59, 60, 61, 62, 63, 64, 65, 66, 67, 68, 69, 70, 71, 72, 73, 74, 75, 76, 77, 78, 79, 80, 81, 82, 83, 84, 85, 86, 87, 88, 89, 90, 91, 92, 93, 1, 94, 95, 96, 97, 98, 99, 100, 101, 102, 103, 104, 105, 106, 107, 108, 109, 110, 111, 112, 113, 114, 115, 116, 117, 118, 119, 120, 121, 122, 123, 124, 125, 126, 127] (by decide +kernel) (by decide +kernel)
set_option maxRecDepth 20000 in
theorem gX7_turn_X7_lead : GoodIn wsX7_turn (wsV RX7 165 RX7 yX7_lead wsX7_lead) := goodIn_app (goodIn_of _ (by decide +kernel)) ggX7_turn_X7_lead
theorem dX7_turn_0 : decode cX7_turn 0 = .ok (.iconst 0, 1) := by decide +kernel
theorem dX7_turn_1 : decode cX7_turn 1 = .ok (.istore_n 1, 1) := by decide +kernel
theorem dX7_turn_2 : decode cX7_turn 2 = .ok (.iconst 0, 1) := by decide +kernel
theorem dX7_turn_3 : decode cX7_turn 3 = .ok (.istore_n 2, 1) := by decide +kernel
theorem dX7_turn_4 : decode cX7_turn 4 = .ok (.iload_n 2, 1) := by decide +kernel
theorem dX7_turn_5 : decode cX7_turn 5 = .ok (.aload_n 0, 1) := by decide +kernel
theorem dX7_turn_6 : decode cX7_turn 6 = .ok (.getfield 94, 3) := by decide +kernel
theorem dX7_turn_9 : decode cX7_turn 9 = .ok (.if_icmp .ge 30, 3) := by decide +kernel
theorem dX7_turn_12 : decode cX7_turn 12 = .ok (.aload_n 0, 1) := by decide +kernel
theorem dX7_turn_13 : decode cX7_turn 13 = .ok (.iload_n 2, 1) := by decide +kernel
theorem dX7_turn_14 : decode cX7_turn 14 = .ok (.invokevirtual 158, 3) := by decide +kernel
theorem dX7_turn_17 : decode cX7_turn 17 = .ok (.ifCond .ne 6, 3) := by decide +kernel
theorem dX7_turn_20 : decode cX7_turn 20 = .ok (.goto 13, 3) := by decide +kernel
theorem dX7_turn_23 : decode cX7_turn 23 = .ok (.aload_n 0, 1) := by decide +kernel
theorem dX7_turn_24 : decode cX7_turn 24 = .ok (.getfield 63, 3) := by decide +kernel
theorem dX7_turn_27 : decode cX7_turn 27 = .ok (.iload_n 1, 1) := by decide +kernel
theorem dX7_turn_28 : decode cX7_turn 28 = .ok (.iload_n 2, 1) := by decide +kernel
theorem dX7_turn_29 : decode cX7_turn 29 = .ok (.iastore, 1) := by decide +kernel
theorem dX7_turn_30 : decode cX7_turn 30 = .ok (.iinc 1 1, 3) := by decide +kernel
theorem dX7_turn_33 : decode cX7_turn 33 = .ok (.iinc 2 1, 3) := by decide +kernel
theorem dX7_turn_36 : decode cX7_turn 36 = .ok (.goto (-32), 3) := by decide +kernel
theorem dX7_turn_39 : decode cX7_turn 39 = .ok (.iload_n 1, 1) := by decide +kernel
theorem dX7_turn_40 : decode cX7_turn 40 = .ok (.iconst 1, 1) := by decide +kernel
theorem dX7_turn_41 : decode cX7_turn 41 = .ok (.isub, 1) := by decide +kernel
theorem dX7_turn_42 : decode cX7_turn 42 = .ok (.istore_n 2, 1) := by decide +kernel
theorem dX7_turn_43 : decode cX7_turn 43 = .ok (.iload_n 2, 1) := by decide +kernel
theorem dX7_turn_44 : decode cX7_turn 44 = .ok (.ifCond .le 48, 3) := by decide +kernel
theorem dX7_turn_47 : decode cX7_turn 47 = .ok (.aload_n 0, 1) := by decide +kernel
theorem dX7_turn_48 : decode cX7_turn 48 = .ok (.invokevirtual 161, 3) := by decide +kernel
theorem dX7_turn_51 : decode cX7_turn 51 = .ok (.iload_n 2, 1) := by decide +kernel
theorem dX7_turn_52 : decode cX7_turn 52 = .ok (.iconst 1, 1) := by decide +kernel
theorem dX7_turn_53 : decode cX7_turn 53 = .ok (.iadd, 1) := by decide +kernel
theorem dX7_turn_54 : decode cX7_turn 54 = .ok (.i2l, 1) := by decide +kernel
theorem dX7_turn_55 : decode cX7_turn 55 = .ok (.lrem, 1) := by decide +kernel
theorem dX7_turn_56 : decode cX7_turn 56 = .ok (.l2i, 1) := by decide +kernel
theorem dX7_turn_57 : decode cX7_turn 57 = .ok (.istore_n 3, 1) := by decide +kernel
theorem dX7_turn_58 : decode cX7_turn 58 = .ok (.aload_n 0, 1) := by decide +kernel
theorem dX7_turn_59 : decode cX7_turn 59 = .ok (.getfield 63, 3) := by decide +kernel
theorem dX7_turn_62 : decode cX7_turn 62 = .ok (.iload_n 2, 1) := by decide +kernel
theorem dX7_turn_63 : decode cX7_turn 63 = .ok (.iaload, 1) := by decide +kernel
theorem dX7_turn_64 : decode cX7_turn 64 = .ok (.istore 4, 2) := by decide +kernel
theorem dX7_turn_66 : decode cX7_turn 66 = .ok (.aload_n 0, 1) := by decide +kernel
theorem dX7_turn_67 : decode cX7_turn 67 = .ok (.getfield 63, 3) := by decide +kernel
theorem dX7_turn_70 : decode cX7_turn 70 = .ok (.iload_n 2, 1) := by decide +kernel
theorem dX7_turn_71 : decode cX7_turn 71 = .ok (.aload_n 0, 1) := by decide +kernel
theorem dX7_turn_72 : decode cX7_turn 72 = .ok (.getfield 63, 3) := by decide +kernel
theorem dX7_turn_75 : decode cX7_turn 75 = .ok (.iload_n 3, 1) := by decide +kernel
theorem dX7_turn_76 : decode cX7_turn 76 = .ok (.iaload, 1) := by decide +kernel
theorem dX7_turn_77 : decode cX7_turn 77 = .ok (.iastore, 1) := by decide +kernel
theorem dX7_turn_78 : decode cX7_turn 78 = .ok (.aload_n 0, 1) := by decide +kernel
theorem dX7_turn_79 : decode cX7_turn 79 = .ok (.getfield 63, 3) := by decide +kernel
theorem dX7_turn_82 : decode cX7_turn 82 = .ok (.iload_n 3, 1) := by decide +kernel
theorem dX7_turn_83 : decode cX7_turn 83 = .ok (.iload 4, 2) := by decide +kernel
theorem dX7_turn_85 : decode cX7_turn 85 = .ok (.iastore, 1) := by decide +kernel
theorem dX7_turn_86 : decode cX7_turn 86 = .ok (.iinc 2 (-1), 3) := by decide +kernel
theorem dX7_turn_89 : decode cX7_turn 89 = .ok (.goto (-46), 3) := by decide +kernel
theorem dX7_turn_92 : decode cX7_turn 92 = .ok (.iconst 0, 1) := by decide +kernel
theorem dX7_turn_93 : decode cX7_turn 93 = .ok (.istore_n 2, 1) := by decide +kernel
theorem dX7_turn_94 : decode cX7_turn 94 = .ok (.iload_n 2, 1) := by decide +kernel
theorem dX7_turn_95 : decode cX7_turn 95 = .ok (.iload_n 1, 1) := by decide +kernel
theorem dX7_turn_96 : decode cX7_turn 96 = .ok (.if_icmp .ge 32, 3) := by decide +kernel
theorem dX7_turn_99 : decode cX7_turn 99 = .ok (.aload_n 0, 1) := by decide +kernel
theorem dX7_turn_100 : decode cX7_turn 100 = .ok (.aload_n 0, 1) := by decide +kernel
theorem dX7_turn_101 : decode cX7_turn 101 = .ok (.getfield 63, 3) := by decide +kernel
theorem dX7_turn_104 : decode cX7_turn 104 = .ok (.iload_n 2, 1) := by decide +kernel
theorem dX7_turn_105 : decode cX7_turn 105 = .ok (.iaload, 1) := by decide +kernel
theorem dX7_turn_106 : decode cX7_turn 106 = .ok (.invokevirtual 158, 3) := by decide +kernel
theorem dX7_turn_109 : decode cX7_turn 109 = .ok (.ifCond .eq 13, 3) := by decide +kernel
theorem dX7_turn_112 : decode cX7_turn 112 = .ok (.aload_n 0, 1) := by decide +kernel
theorem dX7_turn_113 : decode cX7_turn 113 = .ok (.aload_n 0, 1) := by decide +kernel
theorem dX7_turn_114 : decode cX7_turn 114 = .ok (.getfield 63, 3) := by decide +kernel
theorem dX7_turn_117 : decode cX7_turn 117 = .ok (.iload_n 2, 1) := by decide +kernel
theorem dX7_turn_118 : decode cX7_turn 118 = .ok (.iaload, 1) := by decide +kernel
theorem dX7_turn_119 : decode cX7_turn 119 = .ok (.invokevirtual 165, 3) := by decide +kernel
theorem dX7_turn_122 : decode cX7_turn 122 = .ok (.iinc 2 1, 3) := by decide +kernel
theorem dX7_turn_125 : decode cX7_turn 125 = .ok (.goto (-31), 3) := by decide +kernel
theorem dX7_turn_128 : decode cX7_turn 128 = .ok (.aload_n 0, 1) := by decide +kernel
theorem dX7_turn_129 : decode cX7_turn 129 = .ok (.dup, 1) := by decide +kernel
theorem dX7_turn_130 : decode cX7_turn 130 = .ok (.getfield 168, 3) := by decide +kernel
theorem dX7_turn_133 : decode cX7_turn 133 = .ok (.iconst 1, 1) := by decide +kernel
theorem dX7_turn_134 : decode cX7_turn 134 = .ok (.iadd, 1) := by decide +kernel
theorem dX7_turn_135 : decode cX7_turn 135 = .ok (.putfield 168, 3) := by decide +kernel
theorem dX7_turn_138 : decode cX7_turn 138 = .ok (.return_, 1) := by decide +kernel
set_option maxRecDepth 20000 in
theorem ggX7_run_X7_openCount : GoodIn wsX7_run wsX7_openCount := goodIn_r _ [6, 7, 8, 9, 10, 5, 11, 12, 13, 112, 113, 114, 115, 116, 117, 118, 119, 120, 121, 122, 123, 124, 125, 126, 127, 128, 129, 130, 131, 132, 133, 134, 135, 136] (by decide +kernel) (by decide +kernel)
set_option maxRecDepth 20000 in
theorem gX7_run_X7_openCount : GoodIn wsX7_run (wsV RX7 171 RX7 yX7_openCount wsX7_openCount) := goodIn_app (goodIn_of _ (by decide +kernel)) ggX7_run_X7_openCount
set_option maxRecDepth 20000 in
theorem ggX7_run_X7_turn : GoodIn wsX7_run wsX7_turn := goodIn_r _ [17, 7, 18, 19, 8, 9, 10, 5, 11, 12, 13, 20, 21, 22, 23, 24, 25, 26, 27, 28, 29, 30, 31, 32, 33, 34, 35, 36, 37, 38, 39, 40, 41, 42, 43, 44, 45, 46, 47, 48, 49, 50, 51, 52, 53, 54, 55, 56, 57, 58, 59, 60, 61, 62, 63, 64, 65, 66, 67, 68, 69, 70, 71, 72, 73, 74, 75, 76, 77, 78, 79, 80, 81, 82, 83, 84, 85, 86, 87, 88, 89, 90, 91, 92, 93, 94, 95, 96, 97, 98, 99, 100, 101, 102, 103, 104, 105, 106, 107, 108, 109, 110, 111, 112, 113, 114, 115, 116, 117, 118, 119, 120, 121, 122, 123, 124, 125, 126, 127, 128, 129, 130, 131, 132, 133, 134, 135, 136] (by decide +kernel) (by decide +kernel)
set_option maxRecDepth 20000 in
theorem gX7_run_X7_turn : GoodIn wsX7_run (wsV RX7 175 RX7 yX7_turn wsX7_turn) := goodIn_app (goodIn_of _ (by decide +kernel)) ggX7_run_X7_turn
theorem dX7_run_0 : decode cX7_run 0 = .ok (.aload_n 0, 1) := by decide +kernel
theorem dX7_run_1 : decode cX7_run 1 = .ok (.iload_n 1, 1) := by decide +kernel
theorem dX7_run_2 : decode cX7_run 2 = .ok (.iconst 1, 1) := by decide +kernel
theorem dX7_run_3 : decode cX7_run 3 = .ok (.if_icmp .lt 13, 3) := by decide +kernel
theorem dX7_run_6 : decode cX7_run 6 = .ok (.iload_n 1, 1) := by decide +kernel
theorem dX7_run_7 : decode cX7_run 7 = .ok (.bipush 20, 2) := by decide +kernel
theorem dX7_run_9 : decode cX7_run 9 = .ok (.if_icmp .gt 7, 3) := by decide +kernel
theorem dX7_run_12 : decode cX7_run 12 = .ok (.iconst 0, 1) := by decide +kernel
theorem dX7_run_13 : decode cX7_run 13 = .ok (.goto 4, 3) := by decide +kernel
theorem dX7_run_16 : decode cX7_run 16 = .ok (.iconst 1, 1) := by decide +kernel
theorem dX7_run_17 : decode cX7_run 17 = .ok (.putfield 80, 3) := by decide +kernel
theorem dX7_run_20 : decode cX7_run 20 = .ok (.aload_n 0, 1) := by decide +kernel
theorem dX7_run_21 : decode cX7_run 21 = .ok (.getfield 80, 3) := by decide +kernel
theorem dX7_run_24 : decode cX7_run 24 = .ok (.ifCond .eq 5, 3) := by decide +kernel
theorem dX7_run_27 : decode cX7_run 27 = .ok (.iconst 0, 1) := by decide +kernel
theorem dX7_run_28 : decode cX7_run 28 = .ok (.ireturn, 1) := by decide +kernel
theorem dX7_run_29 : decode cX7_run 29 = .ok (.iconst 0, 1) := by decide +kernel
theorem dX7_run_30 : decode cX7_run 30 = .ok (.istore_n 2, 1) := by decide +kernel
theorem dX7_run_31 : decode cX7_run 31 = .ok (.iload_n 2, 1) := by decide +kernel
theorem dX7_run_32 : decode cX7_run 32 = .ok (.iload_n 1, 1) := by decide +kernel
theorem dX7_run_33 : decode cX7_run 33 = .ok (.if_icmp .ge 20, 3) := by decide +kernel
theorem dX7_run_36 : decode cX7_run 36 = .ok (.aload_n 0, 1) := by decide +kernel
theorem dX7_run_37 : decode cX7_run 37 = .ok (.invokevirtual 171, 3) := by decide +kernel
theorem dX7_run_40 : decode cX7_run 40 = .ok (.ifCond .le 13, 3) := by decide +kernel
theorem dX7_run_43 : decode cX7_run 43 = .ok (.aload_n 0, 1) := by decide +kernel
theorem dX7_run_44 : decode cX7_run 44 = .ok (.invokevirtual 175, 3) := by decide +kernel
theorem dX7_run_47 : decode cX7_run 47 = .ok (.iinc 2 1, 3) := by decide +kernel
theorem dX7_run_50 : decode cX7_run 50 = .ok (.goto (-19), 3) := by decide +kernel
theorem dX7_run_53 : decode cX7_run 53 = .ok (.aload_n 0, 1) := by decide +kernel
theorem dX7_run_54 : decode cX7_run 54 = .ok (.invokevirtual 171, 3) := by decide +kernel
theorem dX7_run_57 : decode cX7_run 57 = .ok (.ireturn, 1) := by decide +kernel
set_option maxRecDepth 20000 in
theorem ggX7_piece_X7_isNet : GoodIn wsX7_piece wsX7_isNet := goodIn_r _ [10, 11, 21, 22, 23, 24, 25, 26, 27, 28, 29, 30, 31, 32, 33, 34, 35, 36, 37, 38, 39, 40, 41, 42, 43, 44, 45] (by decide +kernel) (by decide +kernel)
set_option maxRecDepth 20000 in
theorem gX7_piece_X7_isNet : GoodIn wsX7_piece (wsV RX7 97 RX7 yX7_isNet wsX7_isNet) := goodIn_app (goodIn_of _ (by decide +kernel)) ggX7_piece_X7_isNet
set_option maxRecDepth 20000 in
theorem ggX7_piece_X7_layerOf : GoodIn wsX7_piece wsX7_layerOf := goodIn_r _ [15, 5, 16, 21, 22, 23, 24, 25, 26, 27, 28, 29, 30, 31, 32, 33, 34, 35, 36, 37, 38, 39, 40, 41, 42, 43, 44, 45] (by decide +kernel) (by decide +kernel)
set_option maxRecDepth 20000 in
theorem gX7_piece_X7_layerOf : GoodIn wsX7_piece (wsV RX7 83 RX7 yX7_layerOf wsX7_layerOf) := goodIn_app (goodIn_of _ (by decide +kernel)) ggX7_piece_X7_layerOf
set_option maxRecDepth 20000 in
theorem ggX7_piece_X7_rowOf : GoodIn wsX7_piece wsX7_rowOf := goodIn_r _ [20, 5, 16, 21, 22, 23, 24, 25, 26, 27, 28, 29, 30, 31, 32, 33, 34, 35, 36, 37, 38, 39, 40, 41, 42, 43, 44, 45] (by decide +kernel) (by decide +kernel)
set_option maxRecDepth 20000 in
theorem gX7_piece_X7_rowOf : GoodIn wsX7_piece (wsV RX7 87 RX7 yX7_rowOf wsX7_rowOf) := goodIn_app (goodIn_of _ (by decide +kernel)) ggX7_piece_X7_rowOf
theorem dX7_piece_0 : decode cX7_piece 0 = .ok (.aload_n 0, 1) := by decide +kernel
theorem dX7_piece_1 : decode cX7_piece 1 = .ok (.iload_n 1, 1) := by decide +kernel
theorem dX7_piece_2 : decode cX7_piece 2 = .ok (.invokevirtual 97, 3) := by decide +kernel
theorem dX7_piece_5 : decode cX7_piece 5 = .ok (.ifCond .eq 39, 3) := by decide +kernel
theorem dX7_piece_8 : decode cX7_piece 8 = .ok (.aload_n 0, 1) := by decide +kernel
theorem dX7_piece_9 : decode cX7_piece 9 = .ok (.getfield 39, 3) := by decide +kernel
theorem dX7_piece_12 : decode cX7_piece 12 = .ok (.iload_n 1, 1) := by decide +kernel
theorem dX7_piece_13 : decode cX7_piece 13 = .ok (.baload, 1) := by decide +kernel
theorem dX7_piece_14 : decode cX7_piece 14 = .ok (.ifCond .eq 30, 3) := by decide +kernel
theorem dX7_piece_17 : decode cX7_piece 17 = .ok (.iload_n 2, 1) := by decide +kernel
theorem dX7_piece_18 : decode cX7_piece 18 = .ok (.ifCond .lt 26, 3) := by decide +kernel
theorem dX7_piece_21 : decode cX7_piece 21 = .ok (.iload_n 2, 1) := by decide +kernel
theorem dX7_piece_22 : decode cX7_piece 22 = .ok (.aload_n 0, 1) := by decide +kernel
theorem dX7_piece_23 : decode cX7_piece 23 = .ok (.getfield 42, 3) := by decide +kernel
theorem dX7_piece_26 : decode cX7_piece 26 = .ok (.iload_n 1, 1) := by decide +kernel
theorem dX7_piece_27 : decode cX7_piece 27 = .ok (.iaload, 1) := by decide +kernel
theorem dX7_piece_28 : decode cX7_piece 28 = .ok (.if_icmp .ge 16, 3) := by decide +kernel
theorem dX7_piece_31 : decode cX7_piece 31 = .ok (.iload_n 3, 1) := by decide +kernel
theorem dX7_piece_32 : decode cX7_piece 32 = .ok (.ifCond .lt 12, 3) := by decide +kernel
theorem dX7_piece_35 : decode cX7_piece 35 = .ok (.iload_n 3, 1) := by decide +kernel
theorem dX7_piece_36 : decode cX7_piece 36 = .ok (.iconst 3, 1) := by decide +kernel
theorem dX7_piece_37 : decode cX7_piece 37 = .ok (.if_icmp .ge 7, 3) := by decide +kernel
theorem dX7_piece_40 : decode cX7_piece 40 = .ok (.iconst 1, 1) := by decide +kernel
theorem dX7_piece_41 : decode cX7_piece 41 = .ok (.goto 4, 3) := by decide +kernel
theorem dX7_piece_44 : decode cX7_piece 44 = .ok (.iconst 0, 1) := by decide +kernel
theorem dX7_piece_45 : decode cX7_piece 45 = .ok (.istore 4, 2) := by decide +kernel
theorem dX7_piece_47 : decode cX7_piece 47 = .ok (.aload_n 0, 1) := by decide +kernel
theorem dX7_piece_48 : decode cX7_piece 48 = .ok (.iload 4, 2) := by decide +kernel
theorem dX7_piece_50 : decode cX7_piece 50 = .ok (.ifCond .eq 7, 3) := by decide +kernel
theorem dX7_piece_53 : decode cX7_piece 53 = .ok (.iconst 0, 1) := by decide +kernel
theorem dX7_piece_54 : decode cX7_piece 54 = .ok (.goto 4, 3) := by decide +kernel
theorem dX7_piece_57 : decode cX7_piece 57 = .ok (.iconst 1, 1) := by decide +kernel
theorem dX7_piece_58 : decode cX7_piece 58 = .ok (.putfield 80, 3) := by decide +kernel
theorem dX7_piece_61 : decode cX7_piece 61 = .ok (.aload_n 0, 1) := by decide +kernel
theorem dX7_piece_62 : decode cX7_piece 62 = .ok (.getfield 80, 3) := by decide +kernel
theorem dX7_piece_65 : decode cX7_piece 65 = .ok (.ifCond .eq 5, 3) := by decide +kernel
theorem dX7_piece_68 : decode cX7_piece 68 = .ok (.iconst 0, 1) := by decide +kernel
theorem dX7_piece_69 : decode cX7_piece 69 = .ok (.ireturn, 1) := by decide +kernel
theorem dX7_piece_70 : decode cX7_piece 70 = .ok (.aload_n 0, 1) := by decide +kernel
theorem dX7_piece_71 : decode cX7_piece 71 = .ok (.getfield 45, 3) := by decide +kernel
theorem dX7_piece_74 : decode cX7_piece 74 = .ok (.sipush 1024, 3) := by decide +kernel
theorem dX7_piece_77 : decode cX7_piece 77 = .ok (.iload_n 1, 1) := by decide +kernel
theorem dX7_piece_78 : decode cX7_piece 78 = .ok (.imul, 1) := by decide +kernel
theorem dX7_piece_79 : decode cX7_piece 79 = .ok (.iload_n 2, 1) := by decide +kernel
theorem dX7_piece_80 : decode cX7_piece 80 = .ok (.iadd, 1) := by decide +kernel
theorem dX7_piece_81 : decode cX7_piece 81 = .ok (.iaload, 1) := by decide +kernel
theorem dX7_piece_82 : decode cX7_piece 82 = .ok (.istore 5, 2) := by decide +kernel
theorem dX7_piece_84 : decode cX7_piece 84 = .ok (.iload_n 3, 1) := by decide +kernel
theorem dX7_piece_85 : decode cX7_piece 85 = .ok (.ifCond .ne 12, 3) := by decide +kernel
theorem dX7_piece_88 : decode cX7_piece 88 = .ok (.aload_n 0, 1) := by decide +kernel
theorem dX7_piece_89 : decode cX7_piece 89 = .ok (.iload 5, 2) := by decide +kernel
theorem dX7_piece_91 : decode cX7_piece 91 = .ok (.invokevirtual 83, 3) := by decide +kernel
theorem dX7_piece_94 : decode cX7_piece 94 = .ok (.goto 24, 3) := by decide +kernel
theorem dX7_piece_97 : decode cX7_piece 97 = .ok (.iload_n 3, 1) := by decide +kernel
theorem dX7_piece_98 : decode cX7_piece 98 = .ok (.iconst 1, 1) := by decide +kernel
theorem dX7_piece_99 : decode cX7_piece 99 = .ok (.if_icmp .ne 13, 3) := by decide +kernel
theorem dX7_piece_102 : decode cX7_piece 102 = .ok (.iload 5, 2) := by decide +kernel
theorem dX7_piece_104 : decode cX7_piece 104 = .ok (.aload_n 0, 1) := by decide +kernel
theorem dX7_piece_105 : decode cX7_piece 105 = .ok (.getfield 66, 3) := by decide +kernel
theorem dX7_piece_108 : decode cX7_piece 108 = .ok (.irem, 1) := by decide +kernel
theorem dX7_piece_109 : decode cX7_piece 109 = .ok (.goto 9, 3) := by decide +kernel
theorem dX7_piece_112 : decode cX7_piece 112 = .ok (.aload_n 0, 1) := by decide +kernel
theorem dX7_piece_113 : decode cX7_piece 113 = .ok (.iload 5, 2) := by decide +kernel
theorem dX7_piece_115 : decode cX7_piece 115 = .ok (.invokevirtual 87, 3) := by decide +kernel
theorem dX7_piece_118 : decode cX7_piece 118 = .ok (.ireturn, 1) := by decide +kernel
set_option maxRecDepth 20000 in
theorem ggX7_costOf_X7_isNet : GoodIn wsX7_costOf wsX7_isNet := goodIn_r _ [9, 10, 11, 12, 13, 14, 15, 16, 17, 18, 19, 20, 21, 22, 23, 24, 25, 26, 27, 28, 29, 30, 31, 32, 33, 34, 35] (by decide +kernel) (by decide +kernel)
set_option maxRecDepth 20000 in
theorem gX7_costOf_X7_isNet : GoodIn wsX7_costOf (wsV RX7 97 RX7 yX7_isNet wsX7_isNet) := goodIn_app (goodIn_of _ (by decide +kernel)) ggX7_costOf_X7_isNet
theorem dX7_costOf_0 : decode cX7_costOf 0 = .ok (.aload_n 0, 1) := by decide +kernel
theorem dX7_costOf_1 : decode cX7_costOf 1 = .ok (.aload_n 0, 1) := by decide +kernel
theorem dX7_costOf_2 : decode cX7_costOf 2 = .ok (.iload_n 1, 1) := by decide +kernel
theorem dX7_costOf_3 : decode cX7_costOf 3 = .ok (.invokevirtual 97, 3) := by decide +kernel
theorem dX7_costOf_6 : decode cX7_costOf 6 = .ok (.ifCond .eq 7, 3) := by decide +kernel
theorem dX7_costOf_9 : decode cX7_costOf 9 = .ok (.iconst 0, 1) := by decide +kernel
theorem dX7_costOf_10 : decode cX7_costOf 10 = .ok (.goto 4, 3) := by decide +kernel
theorem dX7_costOf_13 : decode cX7_costOf 13 = .ok (.iconst 1, 1) := by decide +kernel
theorem dX7_costOf_14 : decode cX7_costOf 14 = .ok (.putfield 80, 3) := by decide +kernel
theorem dX7_costOf_17 : decode cX7_costOf 17 = .ok (.aload_n 0, 1) := by decide +kernel
theorem dX7_costOf_18 : decode cX7_costOf 18 = .ok (.getfield 80, 3) := by decide +kernel
theorem dX7_costOf_21 : decode cX7_costOf 21 = .ok (.ifCond .eq 7, 3) := by decide +kernel
theorem dX7_costOf_24 : decode cX7_costOf 24 = .ok (.lconst 0, 1) := by decide +kernel
theorem dX7_costOf_25 : decode cX7_costOf 25 = .ok (.goto 24, 3) := by decide +kernel
theorem dX7_costOf_28 : decode cX7_costOf 28 = .ok (.aload_n 0, 1) := by decide +kernel
theorem dX7_costOf_29 : decode cX7_costOf 29 = .ok (.getfield 39, 3) := by decide +kernel
theorem dX7_costOf_32 : decode cX7_costOf 32 = .ok (.iload_n 1, 1) := by decide +kernel
theorem dX7_costOf_33 : decode cX7_costOf 33 = .ok (.baload, 1) := by decide +kernel
theorem dX7_costOf_34 : decode cX7_costOf 34 = .ok (.ifCond .eq 12, 3) := by decide +kernel
theorem dX7_costOf_37 : decode cX7_costOf 37 = .ok (.aload_n 0, 1) := by decide +kernel
theorem dX7_costOf_38 : decode cX7_costOf 38 = .ok (.getfield 48, 3) := by decide +kernel
theorem dX7_costOf_41 : decode cX7_costOf 41 = .ok (.iload_n 1, 1) := by decide +kernel
theorem dX7_costOf_42 : decode cX7_costOf 42 = .ok (.laload, 1) := by decide +kernel
theorem dX7_costOf_43 : decode cX7_costOf 43 = .ok (.goto 6, 3) := by decide +kernel
theorem dX7_costOf_46 : decode cX7_costOf 46 = .ok (.ldc2_w 116, 3) := by decide +kernel
theorem dX7_costOf_49 : decode cX7_costOf 49 = .ok (.lreturn, 1) := by decide +kernel
set_option maxRecDepth 20000 in
theorem ggX7_ripped_X7_isNet : GoodIn wsX7_ripped wsX7_isNet := goodIn_r _ [7, 8, 9, 10, 11, 12, 13, 14, 15, 16, 17, 18, 19, 20, 21, 22, 23, 24, 25, 26, 27, 28, 29, 30, 31, 32, 33] (by decide +kernel) (by decide +kernel)
set_option maxRecDepth 20000 in
theorem gX7_ripped_X7_isNet : GoodIn wsX7_ripped (wsV RX7 97 RX7 yX7_isNet wsX7_isNet) := goodIn_app (goodIn_of _ (by decide +kernel)) ggX7_ripped_X7_isNet
theorem dX7_ripped_0 : decode cX7_ripped 0 = .ok (.aload_n 0, 1) := by decide +kernel
theorem dX7_ripped_1 : decode cX7_ripped 1 = .ok (.aload_n 0, 1) := by decide +kernel
theorem dX7_ripped_2 : decode cX7_ripped 2 = .ok (.iload_n 1, 1) := by decide +kernel
theorem dX7_ripped_3 : decode cX7_ripped 3 = .ok (.invokevirtual 97, 3) := by decide +kernel
theorem dX7_ripped_6 : decode cX7_ripped 6 = .ok (.ifCond .eq 7, 3) := by decide +kernel
theorem dX7_ripped_9 : decode cX7_ripped 9 = .ok (.iconst 0, 1) := by decide +kernel
theorem dX7_ripped_10 : decode cX7_ripped 10 = .ok (.goto 4, 3) := by decide +kernel
theorem dX7_ripped_13 : decode cX7_ripped 13 = .ok (.iconst 1, 1) := by decide +kernel
theorem dX7_ripped_14 : decode cX7_ripped 14 = .ok (.putfield 80, 3) := by decide +kernel
theorem dX7_ripped_17 : decode cX7_ripped 17 = .ok (.aload_n 0, 1) := by decide +kernel
theorem dX7_ripped_18 : decode cX7_ripped 18 = .ok (.getfield 80, 3) := by decide +kernel
theorem dX7_ripped_21 : decode cX7_ripped 21 = .ok (.ifCond .ne 12, 3) := by decide +kernel
theorem dX7_ripped_24 : decode cX7_ripped 24 = .ok (.aload_n 0, 1) := by decide +kernel
theorem dX7_ripped_25 : decode cX7_ripped 25 = .ok (.getfield 51, 3) := by decide +kernel
theorem dX7_ripped_28 : decode cX7_ripped 28 = .ok (.iload_n 1, 1) := by decide +kernel
theorem dX7_ripped_29 : decode cX7_ripped 29 = .ok (.iaload, 1) := by decide +kernel
theorem dX7_ripped_30 : decode cX7_ripped 30 = .ok (.goto 4, 3) := by decide +kernel
theorem dX7_ripped_33 : decode cX7_ripped 33 = .ok (.iconst 0, 1) := by decide +kernel
theorem dX7_ripped_34 : decode cX7_ripped 34 = .ok (.ireturn, 1) := by decide +kernel
set_option maxRecDepth 20000 in
theorem ggX7_history_X7_cell : GoodIn wsX7_history wsX7_cell := goodIn_r _ [7, 8, 9, 10, 11, 12, 13, 14, 15, 16, 17, 18, 19, 20, 21, 22, 23, 24, 25, 26, 27, 28, 29, 30, 31, 32, 33, 34, 35] (by decide +kernel) (by decide +kernel)
set_option maxRecDepth 20000 in
theorem gX7_history_X7_cell : GoodIn wsX7_history (wsV RX7 90 RX7 yX7_cell wsX7_cell) := goodIn_app (goodIn_of _ (by decide +kernel)) ggX7_history_X7_cell
theorem dX7_history_0 : decode cX7_history 0 = .ok (.aload_n 0, 1) := by decide +kernel
theorem dX7_history_1 : decode cX7_history 1 = .ok (.iload_n 1, 1) := by decide +kernel
theorem dX7_history_2 : decode cX7_history 2 = .ok (.iload_n 2, 1) := by decide +kernel
theorem dX7_history_3 : decode cX7_history 3 = .ok (.iload_n 3, 1) := by decide +kernel
theorem dX7_history_4 : decode cX7_history 4 = .ok (.invokevirtual 90, 3) := by decide +kernel
theorem dX7_history_7 : decode cX7_history 7 = .ok (.istore 4, 2) := by decide +kernel
theorem dX7_history_9 : decode cX7_history 9 = .ok (.aload_n 0, 1) := by decide +kernel
theorem dX7_history_10 : decode cX7_history 10 = .ok (.iload 4, 2) := by decide +kernel
theorem dX7_history_12 : decode cX7_history 12 = .ok (.iconst (-1), 1) := by decide +kernel
theorem dX7_history_13 : decode cX7_history 13 = .ok (.if_icmp .ne 7, 3) := by decide +kernel
theorem dX7_history_16 : decode cX7_history 16 = .ok (.iconst 1, 1) := by decide +kernel
theorem dX7_history_17 : decode cX7_history 17 = .ok (.goto 4, 3) := by decide +kernel
theorem dX7_history_20 : decode cX7_history 20 = .ok (.iconst 0, 1) := by decide +kernel
theorem dX7_history_21 : decode cX7_history 21 = .ok (.putfield 80, 3) := by decide +kernel
theorem dX7_history_24 : decode cX7_history 24 = .ok (.aload_n 0, 1) := by decide +kernel
theorem dX7_history_25 : decode cX7_history 25 = .ok (.getfield 80, 3) := by decide +kernel
theorem dX7_history_28 : decode cX7_history 28 = .ok (.ifCond .ne 13, 3) := by decide +kernel
theorem dX7_history_31 : decode cX7_history 31 = .ok (.aload_n 0, 1) := by decide +kernel
theorem dX7_history_32 : decode cX7_history 32 = .ok (.getfield 26, 3) := by decide +kernel
theorem dX7_history_35 : decode cX7_history 35 = .ok (.iload 4, 2) := by decide +kernel
theorem dX7_history_37 : decode cX7_history 37 = .ok (.laload, 1) := by decide +kernel
theorem dX7_history_38 : decode cX7_history 38 = .ok (.goto 4, 3) := by decide +kernel
theorem dX7_history_41 : decode cX7_history 41 = .ok (.lconst 0, 1) := by decide +kernel
theorem dX7_history_42 : decode cX7_history 42 = .ok (.lreturn, 1) := by decide +kernel
set_option maxRecDepth 20000 in
theorem ggX7_open_X7_isOpen : GoodIn wsX7_open wsX7_isOpen := goodIn_r _ [7, 8, 9, 10, 11, 12, 13, 14, 15, 16, 17, 18, 19, 20, 21, 22, 23, 24, 25, 26, 27, 28, 29, 30, 31, 32, 33, 34] (by decide +kernel) (by decide +kernel)
set_option maxRecDepth 20000 in
theorem gX7_open_X7_isOpen : GoodIn wsX7_open (wsV RX7 158 RX7 yX7_isOpen wsX7_isOpen) := goodIn_app (goodIn_of _ (by decide +kernel)) ggX7_open_X7_isOpen
theorem dX7_open_0 : decode cX7_open 0 = .ok (.aload_n 0, 1) := by decide +kernel
theorem dX7_open_1 : decode cX7_open 1 = .ok (.iconst 0, 1) := by decide +kernel
theorem dX7_open_2 : decode cX7_open 2 = .ok (.putfield 80, 3) := by decide +kernel
theorem dX7_open_5 : decode cX7_open 5 = .ok (.iload_n 1, 1) := by decide +kernel
theorem dX7_open_6 : decode cX7_open 6 = .ok (.istore_n 2, 1) := by decide +kernel
theorem dX7_open_7 : decode cX7_open 7 = .ok (.iconst 0, 1) := by decide +kernel
theorem dX7_open_8 : decode cX7_open 8 = .ok (.istore_n 3, 1) := by decide +kernel
theorem dX7_open_9 : decode cX7_open 9 = .ok (.iload_n 3, 1) := by decide +kernel
theorem dX7_open_10 : decode cX7_open 10 = .ok (.aload_n 0, 1) := by decide +kernel
theorem dX7_open_11 : decode cX7_open 11 = .ok (.getfield 94, 3) := by decide +kernel
theorem dX7_open_14 : decode cX7_open 14 = .ok (.if_icmp .ge 33, 3) := by decide +kernel
theorem dX7_open_17 : decode cX7_open 17 = .ok (.iload_n 1, 1) := by decide +kernel
theorem dX7_open_18 : decode cX7_open 18 = .ok (.ifCond .lt 29, 3) := by decide +kernel
theorem dX7_open_21 : decode cX7_open 21 = .ok (.aload_n 0, 1) := by decide +kernel
theorem dX7_open_22 : decode cX7_open 22 = .ok (.iload_n 3, 1) := by decide +kernel
theorem dX7_open_23 : decode cX7_open 23 = .ok (.invokevirtual 158, 3) := by decide +kernel
theorem dX7_open_26 : decode cX7_open 26 = .ok (.ifCond .ne 6, 3) := by decide +kernel
theorem dX7_open_29 : decode cX7_open 29 = .ok (.goto 12, 3) := by decide +kernel
theorem dX7_open_32 : decode cX7_open 32 = .ok (.iload_n 2, 1) := by decide +kernel
theorem dX7_open_33 : decode cX7_open 33 = .ok (.ifCond .ne 5, 3) := by decide +kernel
theorem dX7_open_36 : decode cX7_open 36 = .ok (.iload_n 3, 1) := by decide +kernel
theorem dX7_open_37 : decode cX7_open 37 = .ok (.ireturn, 1) := by decide +kernel
theorem dX7_open_38 : decode cX7_open 38 = .ok (.iinc 2 (-1), 3) := by decide +kernel
theorem dX7_open_41 : decode cX7_open 41 = .ok (.iinc 3 1, 3) := by decide +kernel
theorem dX7_open_44 : decode cX7_open 44 = .ok (.goto (-35), 3) := by decide +kernel
theorem dX7_open_47 : decode cX7_open 47 = .ok (.iconst (-1), 1) := by decide +kernel
theorem dX7_open_48 : decode cX7_open 48 = .ok (.ireturn, 1) := by decide +kernel
set_option maxRecDepth 20000 in
theorem ggX7_blocking_X7_isNet : GoodIn wsX7_blocking wsX7_isNet := goodIn_r _ [8, 2, 9, 10, 11, 12, 13, 14, 15, 16, 17, 18, 19, 20, 21, 22, 23, 24, 25, 26, 27, 28, 29, 30, 31, 32, 33] (by decide +kernel) (by decide +kernel)
set_option maxRecDepth 20000 in
theorem gX7_blocking_X7_isNet : GoodIn wsX7_blocking (wsV RX7 97 RX7 yX7_isNet wsX7_isNet) := goodIn_app (goodIn_of _ (by decide +kernel)) ggX7_blocking_X7_isNet
theorem dX7_blocking_0 : decode cX7_blocking 0 = .ok (.aload_n 0, 1) := by decide +kernel
theorem dX7_blocking_1 : decode cX7_blocking 1 = .ok (.aload_n 0, 1) := by decide +kernel
theorem dX7_blocking_2 : decode cX7_blocking 2 = .ok (.iload_n 1, 1) := by decide +kernel
theorem dX7_blocking_3 : decode cX7_blocking 3 = .ok (.invokevirtual 97, 3) := by decide +kernel
theorem dX7_blocking_6 : decode cX7_blocking 6 = .ok (.ifCond .eq 7, 3) := by decide +kernel
theorem dX7_blocking_9 : decode cX7_blocking 9 = .ok (.iconst 0, 1) := by decide +kernel
theorem dX7_blocking_10 : decode cX7_blocking 10 = .ok (.goto 4, 3) := by decide +kernel
theorem dX7_blocking_13 : decode cX7_blocking 13 = .ok (.iconst 1, 1) := by decide +kernel
theorem dX7_blocking_14 : decode cX7_blocking 14 = .ok (.putfield 80, 3) := by decide +kernel
theorem dX7_blocking_17 : decode cX7_blocking 17 = .ok (.aload_n 0, 1) := by decide +kernel
theorem dX7_blocking_18 : decode cX7_blocking 18 = .ok (.getfield 80, 3) := by decide +kernel
theorem dX7_blocking_21 : decode cX7_blocking 21 = .ok (.ifCond .eq 5, 3) := by decide +kernel
theorem dX7_blocking_24 : decode cX7_blocking 24 = .ok (.iconst 0, 1) := by decide +kernel
theorem dX7_blocking_25 : decode cX7_blocking 25 = .ok (.ireturn, 1) := by decide +kernel
theorem dX7_blocking_26 : decode cX7_blocking 26 = .ok (.iload_n 2, 1) := by decide +kernel
theorem dX7_blocking_27 : decode cX7_blocking 27 = .ok (.istore_n 3, 1) := by decide +kernel
theorem dX7_blocking_28 : decode cX7_blocking 28 = .ok (.iconst 0, 1) := by decide +kernel
theorem dX7_blocking_29 : decode cX7_blocking 29 = .ok (.istore 4, 2) := by decide +kernel
theorem dX7_blocking_31 : decode cX7_blocking 31 = .ok (.iload 4, 2) := by decide +kernel
theorem dX7_blocking_33 : decode cX7_blocking 33 = .ok (.aload_n 0, 1) := by decide +kernel
theorem dX7_blocking_34 : decode cX7_blocking 34 = .ok (.getfield 94, 3) := by decide +kernel
theorem dX7_blocking_37 : decode cX7_blocking 37 = .ok (.if_icmp .ge 40, 3) := by decide +kernel
theorem dX7_blocking_40 : decode cX7_blocking 40 = .ok (.iload_n 2, 1) := by decide +kernel
theorem dX7_blocking_41 : decode cX7_blocking 41 = .ok (.ifCond .lt 36, 3) := by decide +kernel
theorem dX7_blocking_44 : decode cX7_blocking 44 = .ok (.aload_n 0, 1) := by decide +kernel
theorem dX7_blocking_45 : decode cX7_blocking 45 = .ok (.getfield 54, 3) := by decide +kernel
theorem dX7_blocking_48 : decode cX7_blocking 48 = .ok (.iload_n 1, 1) := by decide +kernel
theorem dX7_blocking_49 : decode cX7_blocking 49 = .ok (.iaload, 1) := by decide +kernel
theorem dX7_blocking_50 : decode cX7_blocking 50 = .ok (.iload 4, 2) := by decide +kernel
theorem dX7_blocking_52 : decode cX7_blocking 52 = .ok (.ishr, 1) := by decide +kernel
theorem dX7_blocking_53 : decode cX7_blocking 53 = .ok (.iconst 1, 1) := by decide +kernel
theorem dX7_blocking_54 : decode cX7_blocking 54 = .ok (.iand, 1) := by decide +kernel
theorem dX7_blocking_55 : decode cX7_blocking 55 = .ok (.ifCond .ne 6, 3) := by decide +kernel
theorem dX7_blocking_58 : decode cX7_blocking 58 = .ok (.goto 13, 3) := by decide +kernel
theorem dX7_blocking_61 : decode cX7_blocking 61 = .ok (.iload_n 3, 1) := by decide +kernel
theorem dX7_blocking_62 : decode cX7_blocking 62 = .ok (.ifCond .ne 6, 3) := by decide +kernel
theorem dX7_blocking_65 : decode cX7_blocking 65 = .ok (.iload 4, 2) := by decide +kernel
theorem dX7_blocking_67 : decode cX7_blocking 67 = .ok (.ireturn, 1) := by decide +kernel
theorem dX7_blocking_68 : decode cX7_blocking 68 = .ok (.iinc 3 (-1), 3) := by decide +kernel
theorem dX7_blocking_71 : decode cX7_blocking 71 = .ok (.iinc 4 1, 3) := by decide +kernel
theorem dX7_blocking_74 : decode cX7_blocking 74 = .ok (.goto (-43), 3) := by decide +kernel
theorem dX7_blocking_77 : decode cX7_blocking 77 = .ok (.iconst (-1), 1) := by decide +kernel
theorem dX7_blocking_78 : decode cX7_blocking 78 = .ok (.ireturn, 1) := by decide +kernel
set_option maxRecDepth 20000 in
theorem ggX7_joined_X7_isNet : GoodIn wsX7_joined wsX7_isNet := goodIn_r _ [7, 8, 9, 10, 11, 12, 13, 14, 15, 16, 17, 18, 19, 20, 21, 22, 23, 24, 25, 26, 27, 28, 29, 30, 31, 32, 33] (by decide +kernel) (by decide +kernel)
set_option maxRecDepth 20000 in
theorem gX7_joined_X7_isNet : GoodIn wsX7_joined (wsV RX7 97 RX7 yX7_isNet wsX7_isNet) := goodIn_app (goodIn_of _ (by decide +kernel)) ggX7_joined_X7_isNet
theorem dX7_joined_0 : decode cX7_joined 0 = .ok (.aload_n 0, 1) := by decide +kernel
theorem dX7_joined_1 : decode cX7_joined 1 = .ok (.aload_n 0, 1) := by decide +kernel
theorem dX7_joined_2 : decode cX7_joined 2 = .ok (.iload_n 1, 1) := by decide +kernel
theorem dX7_joined_3 : decode cX7_joined 3 = .ok (.invokevirtual 97, 3) := by decide +kernel
theorem dX7_joined_6 : decode cX7_joined 6 = .ok (.ifCond .eq 7, 3) := by decide +kernel
theorem dX7_joined_9 : decode cX7_joined 9 = .ok (.iconst 0, 1) := by decide +kernel
theorem dX7_joined_10 : decode cX7_joined 10 = .ok (.goto 4, 3) := by decide +kernel
theorem dX7_joined_13 : decode cX7_joined 13 = .ok (.iconst 1, 1) := by decide +kernel
theorem dX7_joined_14 : decode cX7_joined 14 = .ok (.putfield 80, 3) := by decide +kernel
theorem dX7_joined_17 : decode cX7_joined 17 = .ok (.aload_n 0, 1) := by decide +kernel
theorem dX7_joined_18 : decode cX7_joined 18 = .ok (.getfield 80, 3) := by decide +kernel
theorem dX7_joined_21 : decode cX7_joined 21 = .ok (.ifCond .ne 16, 3) := by decide +kernel
theorem dX7_joined_24 : decode cX7_joined 24 = .ok (.aload_n 0, 1) := by decide +kernel
theorem dX7_joined_25 : decode cX7_joined 25 = .ok (.getfield 39, 3) := by decide +kernel
theorem dX7_joined_28 : decode cX7_joined 28 = .ok (.iload_n 1, 1) := by decide +kernel
theorem dX7_joined_29 : decode cX7_joined 29 = .ok (.baload, 1) := by decide +kernel
theorem dX7_joined_30 : decode cX7_joined 30 = .ok (.ifCond .eq 7, 3) := by decide +kernel
theorem dX7_joined_33 : decode cX7_joined 33 = .ok (.iconst 1, 1) := by decide +kernel
theorem dX7_joined_34 : decode cX7_joined 34 = .ok (.goto 4, 3) := by decide +kernel
theorem dX7_joined_37 : decode cX7_joined 37 = .ok (.iconst 0, 1) := by decide +kernel
theorem dX7_joined_38 : decode cX7_joined 38 = .ok (.ireturn, 1) := by decide +kernel
set_option maxRecDepth 20000 in
theorem ggX7_isInBlock_X7_rowOf : GoodIn wsX7_isInBlock wsX7_rowOf := goodIn_r _ [6, 1, 7, 8, 9, 10, 11, 12, 13, 14, 15, 16, 17, 18, 19, 20, 21, 22, 23, 24, 25, 26, 27, 28, 29, 30, 31, 32] (by decide +kernel) (by decide +kernel)
set_option maxRecDepth 20000 in
theorem gX7_isInBlock_X7_rowOf : GoodIn wsX7_isInBlock (wsV RX7 87 RX7 yX7_rowOf wsX7_rowOf) := goodIn_app (goodIn_of _ (by decide +kernel)) ggX7_isInBlock_X7_rowOf
theorem dX7_isInBlock_0 : decode cX7_isInBlock 0 = .ok (.aload_n 0, 1) := by decide +kernel
theorem dX7_isInBlock_1 : decode cX7_isInBlock 1 = .ok (.getfield 66, 3) := by decide +kernel
theorem dX7_isInBlock_4 : decode cX7_isInBlock 4 = .ok (.iconst 3, 1) := by decide +kernel
theorem dX7_isInBlock_5 : decode cX7_isInBlock 5 = .ok (.iadd, 1) := by decide +kernel
theorem dX7_isInBlock_6 : decode cX7_isInBlock 6 = .ok (.iconst 4, 1) := by decide +kernel
theorem dX7_isInBlock_7 : decode cX7_isInBlock 7 = .ok (.idiv, 1) := by decide +kernel
theorem dX7_isInBlock_8 : decode cX7_isInBlock 8 = .ok (.istore_n 3, 1) := by decide +kernel
theorem dX7_isInBlock_9 : decode cX7_isInBlock 9 = .ok (.aload_n 0, 1) := by decide +kernel
theorem dX7_isInBlock_10 : decode cX7_isInBlock 10 = .ok (.iload_n 1, 1) := by decide +kernel
theorem dX7_isInBlock_11 : decode cX7_isInBlock 11 = .ok (.invokevirtual 87, 3) := by decide +kernel
theorem dX7_isInBlock_14 : decode cX7_isInBlock 14 = .ok (.iconst 4, 1) := by decide +kernel
theorem dX7_isInBlock_15 : decode cX7_isInBlock 15 = .ok (.idiv, 1) := by decide +kernel
theorem dX7_isInBlock_16 : decode cX7_isInBlock 16 = .ok (.iload_n 3, 1) := by decide +kernel
theorem dX7_isInBlock_17 : decode cX7_isInBlock 17 = .ok (.imul, 1) := by decide +kernel
theorem dX7_isInBlock_18 : decode cX7_isInBlock 18 = .ok (.iload_n 1, 1) := by decide +kernel
theorem dX7_isInBlock_19 : decode cX7_isInBlock 19 = .ok (.aload_n 0, 1) := by decide +kernel
theorem dX7_isInBlock_20 : decode cX7_isInBlock 20 = .ok (.getfield 66, 3) := by decide +kernel
theorem dX7_isInBlock_23 : decode cX7_isInBlock 23 = .ok (.irem, 1) := by decide +kernel
theorem dX7_isInBlock_24 : decode cX7_isInBlock 24 = .ok (.iconst 4, 1) := by decide +kernel
theorem dX7_isInBlock_25 : decode cX7_isInBlock 25 = .ok (.idiv, 1) := by decide +kernel
theorem dX7_isInBlock_26 : decode cX7_isInBlock 26 = .ok (.iadd, 1) := by decide +kernel
theorem dX7_isInBlock_27 : decode cX7_isInBlock 27 = .ok (.iload_n 2, 1) := by decide +kernel
theorem dX7_isInBlock_28 : decode cX7_isInBlock 28 = .ok (.if_icmp .ne 7, 3) := by decide +kernel
theorem dX7_isInBlock_31 : decode cX7_isInBlock 31 = .ok (.iconst 1, 1) := by decide +kernel
theorem dX7_isInBlock_32 : decode cX7_isInBlock 32 = .ok (.goto 4, 3) := by decide +kernel
theorem dX7_isInBlock_35 : decode cX7_isInBlock 35 = .ok (.iconst 0, 1) := by decide +kernel
theorem dX7_isInBlock_36 : decode cX7_isInBlock 36 = .ok (.ireturn, 1) := by decide +kernel
set_option maxRecDepth 20000 in
theorem ggX7_corridor_X7_isNet : GoodIn wsX7_corridor wsX7_isNet := goodIn_r _ [10, 11, 20, 21, 22, 23, 24, 25, 26, 27, 28, 29, 30, 31, 32, 33, 34, 35, 36, 37, 38, 39, 40, 41, 42, 43, 44] (by decide +kernel) (by decide +kernel)
set_option maxRecDepth 20000 in
theorem gX7_corridor_X7_isNet : GoodIn wsX7_corridor (wsV RX7 97 RX7 yX7_isNet wsX7_isNet) := goodIn_app (goodIn_of _ (by decide +kernel)) ggX7_corridor_X7_isNet
set_option maxRecDepth 20000 in
theorem ggX7_corridor_X7_isInBlock : GoodIn wsX7_corridor wsX7_isInBlock := goodIn_r _ [15, 2, 16, 17, 18, 9, 19, 3, 20, 21, 22, 23, 24, 25, 26, 27, 28, 29, 30, 31, 32, 33, 34, 35, 36, 37, 38, 39, 40, 41, 42, 43, 44] (by decide +kernel) (by decide +kernel)
set_option maxRecDepth 20000 in
theorem gX7_corridor_X7_isInBlock : GoodIn wsX7_corridor (wsV RX7 178 RX7 yX7_isInBlock wsX7_isInBlock) := goodIn_app (goodIn_of _ (by decide +kernel)) ggX7_corridor_X7_isInBlock
theorem dX7_corridor_0 : decode cX7_corridor 0 = .ok (.aload_n 0, 1) := by decide +kernel
theorem dX7_corridor_1 : decode cX7_corridor 1 = .ok (.aload_n 0, 1) := by decide +kernel
theorem dX7_corridor_2 : decode cX7_corridor 2 = .ok (.iload_n 1, 1) := by decide +kernel
theorem dX7_corridor_3 : decode cX7_corridor 3 = .ok (.invokevirtual 97, 3) := by decide +kernel
theorem dX7_corridor_6 : decode cX7_corridor 6 = .ok (.ifCond .eq 7, 3) := by decide +kernel
theorem dX7_corridor_9 : decode cX7_corridor 9 = .ok (.iconst 0, 1) := by decide +kernel
theorem dX7_corridor_10 : decode cX7_corridor 10 = .ok (.goto 4, 3) := by decide +kernel
theorem dX7_corridor_13 : decode cX7_corridor 13 = .ok (.iconst 1, 1) := by decide +kernel
theorem dX7_corridor_14 : decode cX7_corridor 14 = .ok (.putfield 80, 3) := by decide +kernel
theorem dX7_corridor_17 : decode cX7_corridor 17 = .ok (.aload_n 0, 1) := by decide +kernel
theorem dX7_corridor_18 : decode cX7_corridor 18 = .ok (.getfield 80, 3) := by decide +kernel
theorem dX7_corridor_21 : decode cX7_corridor 21 = .ok (.ifCond .ne 7, 3) := by decide +kernel
theorem dX7_corridor_24 : decode cX7_corridor 24 = .ok (.iload_n 2, 1) := by decide +kernel
theorem dX7_corridor_25 : decode cX7_corridor 25 = .ok (.ifCond .ge 16, 3) := by decide +kernel
theorem dX7_corridor_28 : decode cX7_corridor 28 = .ok (.aload_n 0, 1) := by decide +kernel
theorem dX7_corridor_29 : decode cX7_corridor 29 = .ok (.getfield 80, 3) := by decide +kernel
theorem dX7_corridor_32 : decode cX7_corridor 32 = .ok (.ifCond .eq 7, 3) := by decide +kernel
theorem dX7_corridor_35 : decode cX7_corridor 35 = .ok (.iconst 0, 1) := by decide +kernel
theorem dX7_corridor_36 : decode cX7_corridor 36 = .ok (.goto 4, 3) := by decide +kernel
theorem dX7_corridor_39 : decode cX7_corridor 39 = .ok (.iconst (-1), 1) := by decide +kernel
theorem dX7_corridor_40 : decode cX7_corridor 40 = .ok (.ireturn, 1) := by decide +kernel
theorem dX7_corridor_41 : decode cX7_corridor 41 = .ok (.iload_n 2, 1) := by decide +kernel
theorem dX7_corridor_42 : decode cX7_corridor 42 = .ok (.istore_n 3, 1) := by decide +kernel
theorem dX7_corridor_43 : decode cX7_corridor 43 = .ok (.iconst 0, 1) := by decide +kernel
theorem dX7_corridor_44 : decode cX7_corridor 44 = .ok (.istore 4, 2) := by decide +kernel
theorem dX7_corridor_46 : decode cX7_corridor 46 = .ok (.iload 4, 2) := by decide +kernel
theorem dX7_corridor_48 : decode cX7_corridor 48 = .ok (.bipush 16, 2) := by decide +kernel
theorem dX7_corridor_50 : decode cX7_corridor 50 = .ok (.if_icmp .ge 99, 3) := by decide +kernel
theorem dX7_corridor_53 : decode cX7_corridor 53 = .ok (.iconst 0, 1) := by decide +kernel
theorem dX7_corridor_54 : decode cX7_corridor 54 = .ok (.istore 5, 2) := by decide +kernel
theorem dX7_corridor_56 : decode cX7_corridor 56 = .ok (.iconst 0, 1) := by decide +kernel
theorem dX7_corridor_57 : decode cX7_corridor 57 = .ok (.istore 6, 2) := by decide +kernel
theorem dX7_corridor_59 : decode cX7_corridor 59 = .ok (.iload 6, 2) := by decide +kernel
theorem dX7_corridor_61 : decode cX7_corridor 61 = .ok (.aload_n 0, 1) := by decide +kernel
theorem dX7_corridor_62 : decode cX7_corridor 62 = .ok (.getfield 66, 3) := by decide +kernel
theorem dX7_corridor_65 : decode cX7_corridor 65 = .ok (.aload_n 0, 1) := by decide +kernel
theorem dX7_corridor_66 : decode cX7_corridor 66 = .ok (.getfield 70, 3) := by decide +kernel
theorem dX7_corridor_69 : decode cX7_corridor 69 = .ok (.imul, 1) := by decide +kernel
theorem dX7_corridor_70 : decode cX7_corridor 70 = .ok (.aload_n 0, 1) := by decide +kernel
theorem dX7_corridor_71 : decode cX7_corridor 71 = .ok (.getfield 73, 3) := by decide +kernel
theorem dX7_corridor_74 : decode cX7_corridor 74 = .ok (.imul, 1) := by decide +kernel
theorem dX7_corridor_75 : decode cX7_corridor 75 = .ok (.if_icmp .ge 43, 3) := by decide +kernel
theorem dX7_corridor_78 : decode cX7_corridor 78 = .ok (.iload 5, 2) := by decide +kernel
theorem dX7_corridor_80 : decode cX7_corridor 80 = .ok (.ifCond .ne 25, 3) := by decide +kernel
theorem dX7_corridor_83 : decode cX7_corridor 83 = .ok (.aload_n 0, 1) := by decide +kernel
theorem dX7_corridor_84 : decode cX7_corridor 84 = .ok (.getfield 16, 3) := by decide +kernel
theorem dX7_corridor_87 : decode cX7_corridor 87 = .ok (.iload 6, 2) := by decide +kernel
theorem dX7_corridor_89 : decode cX7_corridor 89 = .ok (.iaload, 1) := by decide +kernel
theorem dX7_corridor_90 : decode cX7_corridor 90 = .ok (.iload_n 1, 1) := by decide +kernel
theorem dX7_corridor_91 : decode cX7_corridor 91 = .ok (.if_icmp .ne 18, 3) := by decide +kernel
theorem dX7_corridor_94 : decode cX7_corridor 94 = .ok (.aload_n 0, 1) := by decide +kernel
theorem dX7_corridor_95 : decode cX7_corridor 95 = .ok (.iload 6, 2) := by decide +kernel
theorem dX7_corridor_97 : decode cX7_corridor 97 = .ok (.iload 4, 2) := by decide +kernel
theorem dX7_corridor_99 : decode cX7_corridor 99 = .ok (.invokevirtual 178, 3) := by decide +kernel
theorem dX7_corridor_102 : decode cX7_corridor 102 = .ok (.ifCond .eq 7, 3) := by decide +kernel
theorem dX7_corridor_105 : decode cX7_corridor 105 = .ok (.iconst 1, 1) := by decide +kernel
theorem dX7_corridor_106 : decode cX7_corridor 106 = .ok (.goto 4, 3) := by decide +kernel
theorem dX7_corridor_109 : decode cX7_corridor 109 = .ok (.iconst 0, 1) := by decide +kernel
theorem dX7_corridor_110 : decode cX7_corridor 110 = .ok (.istore 5, 2) := by decide +kernel
theorem dX7_corridor_112 : decode cX7_corridor 112 = .ok (.iinc 6 1, 3) := by decide +kernel
theorem dX7_corridor_115 : decode cX7_corridor 115 = .ok (.goto (-56), 3) := by decide +kernel
theorem dX7_corridor_118 : decode cX7_corridor 118 = .ok (.iload 5, 2) := by decide +kernel
theorem dX7_corridor_120 : decode cX7_corridor 120 = .ok (.ifCond .eq 10, 3) := by decide +kernel
theorem dX7_corridor_123 : decode cX7_corridor 123 = .ok (.iload_n 3, 1) := by decide +kernel
theorem dX7_corridor_124 : decode cX7_corridor 124 = .ok (.ifCond .ne 6, 3) := by decide +kernel
theorem dX7_corridor_127 : decode cX7_corridor 127 = .ok (.iload 4, 2) := by decide +kernel
theorem dX7_corridor_129 : decode cX7_corridor 129 = .ok (.ireturn, 1) := by decide +kernel
theorem dX7_corridor_130 : decode cX7_corridor 130 = .ok (.iload_n 3, 1) := by decide +kernel
theorem dX7_corridor_131 : decode cX7_corridor 131 = .ok (.iload 5, 2) := by decide +kernel
theorem dX7_corridor_133 : decode cX7_corridor 133 = .ok (.ifCond .eq 7, 3) := by decide +kernel
theorem dX7_corridor_136 : decode cX7_corridor 136 = .ok (.iconst 1, 1) := by decide +kernel
theorem dX7_corridor_137 : decode cX7_corridor 137 = .ok (.goto 4, 3) := by decide +kernel
theorem dX7_corridor_140 : decode cX7_corridor 140 = .ok (.iconst 0, 1) := by decide +kernel
theorem dX7_corridor_141 : decode cX7_corridor 141 = .ok (.isub, 1) := by decide +kernel
theorem dX7_corridor_142 : decode cX7_corridor 142 = .ok (.istore_n 3, 1) := by decide +kernel
theorem dX7_corridor_143 : decode cX7_corridor 143 = .ok (.iinc 4 1, 3) := by decide +kernel
theorem dX7_corridor_146 : decode cX7_corridor 146 = .ok (.goto (-100), 3) := by decide +kernel
theorem dX7_corridor_149 : decode cX7_corridor 149 = .ok (.iconst (-1), 1) := by decide +kernel
theorem dX7_corridor_150 : decode cX7_corridor 150 = .ok (.ireturn, 1) := by decide +kernel
theorem dX7_round_0 : decode cX7_round 0 = .ok (.aload_n 0, 1) := by decide +kernel
theorem dX7_round_1 : decode cX7_round 1 = .ok (.iconst 0, 1) := by decide +kernel
theorem dX7_round_2 : decode cX7_round 2 = .ok (.putfield 80, 3) := by decide +kernel
theorem dX7_round_5 : decode cX7_round 5 = .ok (.aload_n 0, 1) := by decide +kernel
theorem dX7_round_6 : decode cX7_round 6 = .ok (.getfield 168, 3) := by decide +kernel
theorem dX7_round_9 : decode cX7_round 9 = .ok (.ireturn, 1) := by decide +kernel
theorem dX7_holds_0 : decode cX7_holds 0 = .ok (.iload_n 2, 1) := by decide +kernel
theorem dX7_holds_1 : decode cX7_holds 1 = .ok (.iconst (-1), 1) := by decide +kernel
theorem dX7_holds_2 : decode cX7_holds 2 = .ok (.if_icmp .eq 17, 3) := by decide +kernel
theorem dX7_holds_5 : decode cX7_holds 5 = .ok (.aload_n 0, 1) := by decide +kernel
theorem dX7_holds_6 : decode cX7_holds 6 = .ok (.getfield 16, 3) := by decide +kernel
theorem dX7_holds_9 : decode cX7_holds 9 = .ok (.iload_n 2, 1) := by decide +kernel
theorem dX7_holds_10 : decode cX7_holds 10 = .ok (.iaload, 1) := by decide +kernel
theorem dX7_holds_11 : decode cX7_holds 11 = .ok (.iload_n 1, 1) := by decide +kernel
theorem dX7_holds_12 : decode cX7_holds 12 = .ok (.if_icmp .ne 7, 3) := by decide +kernel
theorem dX7_holds_15 : decode cX7_holds 15 = .ok (.iconst 1, 1) := by decide +kernel
theorem dX7_holds_16 : decode cX7_holds 16 = .ok (.goto 4, 3) := by decide +kernel
theorem dX7_holds_19 : decode cX7_holds 19 = .ok (.iconst 0, 1) := by decide +kernel
theorem dX7_holds_20 : decode cX7_holds 20 = .ok (.ireturn, 1) := by decide +kernel
set_option maxRecDepth 20000 in
theorem ggX7_band_X7_isNet : GoodIn wsX7_band wsX7_isNet := goodIn_r _ [12, 13, 30, 31, 32, 33, 34, 35, 36, 37, 38, 39, 40, 41, 42, 43, 44, 45, 46, 47, 48, 49, 50, 51, 52, 53, 54] (by decide +kernel) (by decide +kernel)
set_option maxRecDepth 20000 in
theorem gX7_band_X7_isNet : GoodIn wsX7_band (wsV RX7 97 RX7 yX7_isNet wsX7_isNet) := goodIn_app (goodIn_of _ (by decide +kernel)) ggX7_band_X7_isNet
set_option maxRecDepth 20000 in
theorem ggX7_band_X7_layerOf : GoodIn wsX7_band wsX7_layerOf := goodIn_r _ [17, 3, 4, 30, 31, 32, 33, 34, 35, 36, 37, 38, 39, 40, 41, 42, 43, 44, 45, 46, 47, 48, 49, 50, 51, 52, 53, 54] (by decide +kernel) (by decide +kernel)
set_option maxRecDepth 20000 in
theorem gX7_band_X7_layerOf : GoodIn wsX7_band (wsV RX7 83 RX7 yX7_layerOf wsX7_layerOf) := goodIn_app (goodIn_of _ (by decide +kernel)) ggX7_band_X7_layerOf
set_option maxRecDepth 20000 in
theorem ggX7_band_X7_rowOf : GoodIn wsX7_band wsX7_rowOf := goodIn_r _ [21, 3, 4, 30, 31, 32, 33, 34, 35, 36, 37, 38, 39, 40, 41, 42, 43, 44, 45, 46, 47, 48, 49, 50, 51, 52, 53, 54] (by decide +kernel) (by decide +kernel)
set_option maxRecDepth 20000 in
theorem gX7_band_X7_rowOf : GoodIn wsX7_band (wsV RX7 87 RX7 yX7_rowOf wsX7_rowOf) := goodIn_app (goodIn_of _ (by decide +kernel)) ggX7_band_X7_rowOf
set_option maxRecDepth 20000 in
theorem ggX7_band_X7_cell : GoodIn wsX7_band wsX7_cell := goodIn_r _ [25, 5, 3, 4, 30, 31, 32, 33, 34, 35, 36, 37, 38, 39, 40, 41, 42, 43, 44, 45, 46, 47, 48, 49, 50, 51, 52, 53, 54] (by decide +kernel) (by decide +kernel)
set_option maxRecDepth 20000 in
theorem gX7_band_X7_cell : GoodIn wsX7_band (wsV RX7 90 RX7 yX7_cell wsX7_cell) := goodIn_app (goodIn_of _ (by decide +kernel)) ggX7_band_X7_cell
set_option maxRecDepth 20000 in
theorem ggX7_band_X7_holds : GoodIn wsX7_band wsX7_holds := goodIn_r _ [29, 6, 30, 31, 32, 33, 34, 35, 36, 37, 38, 39, 40, 41, 42, 43, 44, 45, 46, 47, 48, 49, 50, 51, 52, 53, 54] (by decide +kernel) (by decide +kernel)
set_option maxRecDepth 20000 in
theorem gX7_band_X7_holds : GoodIn wsX7_band (wsV RX7 182 RX7 yX7_holds wsX7_holds) := goodIn_app (goodIn_of _ (by decide +kernel)) ggX7_band_X7_holds
theorem dX7_band_0 : decode cX7_band 0 = .ok (.aload_n 0, 1) := by decide +kernel
theorem dX7_band_1 : decode cX7_band 1 = .ok (.aload_n 0, 1) := by decide +kernel
theorem dX7_band_2 : decode cX7_band 2 = .ok (.iload_n 1, 1) := by decide +kernel
theorem dX7_band_3 : decode cX7_band 3 = .ok (.invokevirtual 97, 3) := by decide +kernel
theorem dX7_band_6 : decode cX7_band 6 = .ok (.ifCond .eq 7, 3) := by decide +kernel
theorem dX7_band_9 : decode cX7_band 9 = .ok (.iconst 0, 1) := by decide +kernel
theorem dX7_band_10 : decode cX7_band 10 = .ok (.goto 4, 3) := by decide +kernel
theorem dX7_band_13 : decode cX7_band 13 = .ok (.iconst 1, 1) := by decide +kernel
theorem dX7_band_14 : decode cX7_band 14 = .ok (.putfield 80, 3) := by decide +kernel
theorem dX7_band_17 : decode cX7_band 17 = .ok (.aload_n 0, 1) := by decide +kernel
theorem dX7_band_18 : decode cX7_band 18 = .ok (.getfield 80, 3) := by decide +kernel
theorem dX7_band_21 : decode cX7_band 21 = .ok (.ifCond .ne 12, 3) := by decide +kernel
theorem dX7_band_24 : decode cX7_band 24 = .ok (.aload_n 0, 1) := by decide +kernel
theorem dX7_band_25 : decode cX7_band 25 = .ok (.getfield 39, 3) := by decide +kernel
theorem dX7_band_28 : decode cX7_band 28 = .ok (.iload_n 1, 1) := by decide +kernel
theorem dX7_band_29 : decode cX7_band 29 = .ok (.baload, 1) := by decide +kernel
theorem dX7_band_30 : decode cX7_band 30 = .ok (.ifCond .ne 5, 3) := by decide +kernel
theorem dX7_band_33 : decode cX7_band 33 = .ok (.iconst 0, 1) := by decide +kernel
theorem dX7_band_34 : decode cX7_band 34 = .ok (.ireturn, 1) := by decide +kernel
theorem dX7_band_35 : decode cX7_band 35 = .ok (.iconst 0, 1) := by decide +kernel
theorem dX7_band_36 : decode cX7_band 36 = .ok (.istore_n 2, 1) := by decide +kernel
theorem dX7_band_37 : decode cX7_band 37 = .ok (.iload_n 2, 1) := by decide +kernel
theorem dX7_band_38 : decode cX7_band 38 = .ok (.aload_n 0, 1) := by decide +kernel
theorem dX7_band_39 : decode cX7_band 39 = .ok (.getfield 66, 3) := by decide +kernel
theorem dX7_band_42 : decode cX7_band 42 = .ok (.aload_n 0, 1) := by decide +kernel
theorem dX7_band_43 : decode cX7_band 43 = .ok (.getfield 70, 3) := by decide +kernel
theorem dX7_band_46 : decode cX7_band 46 = .ok (.imul, 1) := by decide +kernel
theorem dX7_band_47 : decode cX7_band 47 = .ok (.aload_n 0, 1) := by decide +kernel
theorem dX7_band_48 : decode cX7_band 48 = .ok (.getfield 73, 3) := by decide +kernel
theorem dX7_band_51 : decode cX7_band 51 = .ok (.imul, 1) := by decide +kernel
theorem dX7_band_52 : decode cX7_band 52 = .ok (.if_icmp .ge 167, 3) := by decide +kernel
theorem dX7_band_55 : decode cX7_band 55 = .ok (.aload_n 0, 1) := by decide +kernel
theorem dX7_band_56 : decode cX7_band 56 = .ok (.getfield 16, 3) := by decide +kernel
theorem dX7_band_59 : decode cX7_band 59 = .ok (.iload_n 2, 1) := by decide +kernel
theorem dX7_band_60 : decode cX7_band 60 = .ok (.iaload, 1) := by decide +kernel
theorem dX7_band_61 : decode cX7_band 61 = .ok (.iload_n 1, 1) := by decide +kernel
theorem dX7_band_62 : decode cX7_band 62 = .ok (.if_icmp .eq 6, 3) := by decide +kernel
theorem dX7_band_65 : decode cX7_band 65 = .ok (.goto 148, 3) := by decide +kernel
theorem dX7_band_68 : decode cX7_band 68 = .ok (.aload_n 0, 1) := by decide +kernel
theorem dX7_band_69 : decode cX7_band 69 = .ok (.iload_n 2, 1) := by decide +kernel
theorem dX7_band_70 : decode cX7_band 70 = .ok (.invokevirtual 83, 3) := by decide +kernel
theorem dX7_band_73 : decode cX7_band 73 = .ok (.istore_n 3, 1) := by decide +kernel
theorem dX7_band_74 : decode cX7_band 74 = .ok (.iload_n 2, 1) := by decide +kernel
theorem dX7_band_75 : decode cX7_band 75 = .ok (.aload_n 0, 1) := by decide +kernel
theorem dX7_band_76 : decode cX7_band 76 = .ok (.getfield 66, 3) := by decide +kernel
theorem dX7_band_79 : decode cX7_band 79 = .ok (.irem, 1) := by decide +kernel
theorem dX7_band_80 : decode cX7_band 80 = .ok (.istore 4, 2) := by decide +kernel
theorem dX7_band_82 : decode cX7_band 82 = .ok (.aload_n 0, 1) := by decide +kernel
theorem dX7_band_83 : decode cX7_band 83 = .ok (.iload_n 2, 1) := by decide +kernel
theorem dX7_band_84 : decode cX7_band 84 = .ok (.invokevirtual 87, 3) := by decide +kernel
theorem dX7_band_87 : decode cX7_band 87 = .ok (.istore 5, 2) := by decide +kernel
theorem dX7_band_89 : decode cX7_band 89 = .ok (.iconst (-1), 1) := by decide +kernel
theorem dX7_band_90 : decode cX7_band 90 = .ok (.istore 6, 2) := by decide +kernel
theorem dX7_band_92 : decode cX7_band 92 = .ok (.iload 6, 2) := by decide +kernel
theorem dX7_band_94 : decode cX7_band 94 = .ok (.iconst 2, 1) := by decide +kernel
theorem dX7_band_95 : decode cX7_band 95 = .ok (.if_icmp .ge 118, 3) := by decide +kernel
theorem dX7_band_98 : decode cX7_band 98 = .ok (.iconst (-1), 1) := by decide +kernel
theorem dX7_band_99 : decode cX7_band 99 = .ok (.istore 7, 2) := by decide +kernel
theorem dX7_band_101 : decode cX7_band 101 = .ok (.iload 7, 2) := by decide +kernel
theorem dX7_band_103 : decode cX7_band 103 = .ok (.iconst 2, 1) := by decide +kernel
theorem dX7_band_104 : decode cX7_band 104 = .ok (.if_icmp .ge 103, 3) := by decide +kernel
theorem dX7_band_107 : decode cX7_band 107 = .ok (.aload_n 0, 1) := by decide +kernel
theorem dX7_band_108 : decode cX7_band 108 = .ok (.iload_n 1, 1) := by decide +kernel
theorem dX7_band_109 : decode cX7_band 109 = .ok (.aload_n 0, 1) := by decide +kernel
theorem dX7_band_110 : decode cX7_band 110 = .ok (.iload_n 3, 1) := by decide +kernel
theorem dX7_band_111 : decode cX7_band 111 = .ok (.iload 4, 2) := by decide +kernel
theorem dX7_band_113 : decode cX7_band 113 = .ok (.iload 6, 2) := by decide +kernel
theorem dX7_band_115 : decode cX7_band 115 = .ok (.iadd, 1) := by decide +kernel
theorem dX7_band_116 : decode cX7_band 116 = .ok (.iload 5, 2) := by decide +kernel
theorem dX7_band_118 : decode cX7_band 118 = .ok (.invokevirtual 90, 3) := by decide +kernel
theorem dX7_band_121 : decode cX7_band 121 = .ok (.invokevirtual 182, 3) := by decide +kernel
theorem dX7_band_124 : decode cX7_band 124 = .ok (.ifCond .eq 77, 3) := by decide +kernel
theorem dX7_band_127 : decode cX7_band 127 = .ok (.aload_n 0, 1) := by decide +kernel
theorem dX7_band_128 : decode cX7_band 128 = .ok (.iload_n 1, 1) := by decide +kernel
theorem dX7_band_129 : decode cX7_band 129 = .ok (.aload_n 0, 1) := by decide +kernel
theorem dX7_band_130 : decode cX7_band 130 = .ok (.iload_n 3, 1) := by decide +kernel
theorem dX7_band_131 : decode cX7_band 131 = .ok (.iload 4, 2) := by decide +kernel
theorem dX7_band_133 : decode cX7_band 133 = .ok (.iload 5, 2) := by decide +kernel
theorem dX7_band_135 : decode cX7_band 135 = .ok (.iload 7, 2) := by decide +kernel
theorem dX7_band_137 : decode cX7_band 137 = .ok (.iadd, 1) := by decide +kernel
theorem dX7_band_138 : decode cX7_band 138 = .ok (.invokevirtual 90, 3) := by decide +kernel
theorem dX7_band_141 : decode cX7_band 141 = .ok (.invokevirtual 182, 3) := by decide +kernel
theorem dX7_band_144 : decode cX7_band 144 = .ok (.ifCond .ne 6, 3) := by decide +kernel
theorem dX7_band_147 : decode cX7_band 147 = .ok (.goto 54, 3) := by decide +kernel
theorem dX7_band_150 : decode cX7_band 150 = .ok (.aload_n 0, 1) := by decide +kernel
theorem dX7_band_151 : decode cX7_band 151 = .ok (.iload_n 3, 1) := by decide +kernel
theorem dX7_band_152 : decode cX7_band 152 = .ok (.iload 4, 2) := by decide +kernel
theorem dX7_band_154 : decode cX7_band 154 = .ok (.iload 6, 2) := by decide +kernel
theorem dX7_band_156 : decode cX7_band 156 = .ok (.iadd, 1) := by decide +kernel
theorem dX7_band_157 : decode cX7_band 157 = .ok (.iload 5, 2) := by decide +kernel
theorem dX7_band_159 : decode cX7_band 159 = .ok (.iload 7, 2) := by decide +kernel
theorem dX7_band_161 : decode cX7_band 161 = .ok (.iadd, 1) := by decide +kernel
theorem dX7_band_162 : decode cX7_band 162 = .ok (.invokevirtual 90, 3) := by decide +kernel
theorem dX7_band_165 : decode cX7_band 165 = .ok (.istore 8, 2) := by decide +kernel
theorem dX7_band_167 : decode cX7_band 167 = .ok (.aload_n 0, 1) := by decide +kernel
theorem dX7_band_168 : decode cX7_band 168 = .ok (.getfield 23, 3) := by decide +kernel
theorem dX7_band_171 : decode cX7_band 171 = .ok (.iload 8, 2) := by decide +kernel
theorem dX7_band_173 : decode cX7_band 173 = .ok (.baload, 1) := by decide +kernel
theorem dX7_band_174 : decode cX7_band 174 = .ok (.ifCond .ne 25, 3) := by decide +kernel
theorem dX7_band_177 : decode cX7_band 177 = .ok (.aload_n 0, 1) := by decide +kernel
theorem dX7_band_178 : decode cX7_band 178 = .ok (.getfield 16, 3) := by decide +kernel
theorem dX7_band_181 : decode cX7_band 181 = .ok (.iload 8, 2) := by decide +kernel
theorem dX7_band_183 : decode cX7_band 183 = .ok (.iaload, 1) := by decide +kernel
theorem dX7_band_184 : decode cX7_band 184 = .ok (.iconst (-1), 1) := by decide +kernel
theorem dX7_band_185 : decode cX7_band 185 = .ok (.if_icmp .eq 16, 3) := by decide +kernel
theorem dX7_band_188 : decode cX7_band 188 = .ok (.aload_n 0, 1) := by decide +kernel
theorem dX7_band_189 : decode cX7_band 189 = .ok (.getfield 16, 3) := by decide +kernel
theorem dX7_band_192 : decode cX7_band 192 = .ok (.iload 8, 2) := by decide +kernel
theorem dX7_band_194 : decode cX7_band 194 = .ok (.iaload, 1) := by decide +kernel
theorem dX7_band_195 : decode cX7_band 195 = .ok (.iload_n 1, 1) := by decide +kernel
theorem dX7_band_196 : decode cX7_band 196 = .ok (.if_icmp .eq 5, 3) := by decide +kernel
theorem dX7_band_199 : decode cX7_band 199 = .ok (.iconst 0, 1) := by decide +kernel
theorem dX7_band_200 : decode cX7_band 200 = .ok (.ireturn, 1) := by decide +kernel
theorem dX7_band_201 : decode cX7_band 201 = .ok (.iinc 7 2, 3) := by decide +kernel
theorem dX7_band_204 : decode cX7_band 204 = .ok (.goto (-103), 3) := by decide +kernel
theorem dX7_band_207 : decode cX7_band 207 = .ok (.iinc 6 2, 3) := by decide +kernel
theorem dX7_band_210 : decode cX7_band 210 = .ok (.goto (-118), 3) := by decide +kernel
theorem dX7_band_213 : decode cX7_band 213 = .ok (.iinc 2 1, 3) := by decide +kernel
theorem dX7_band_216 : decode cX7_band 216 = .ok (.goto (-179), 3) := by decide +kernel
theorem dX7_band_219 : decode cX7_band 219 = .ok (.iconst 1, 1) := by decide +kernel
theorem dX7_band_220 : decode cX7_band 220 = .ok (.ireturn, 1) := by decide +kernel
