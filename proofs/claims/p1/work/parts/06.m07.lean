theorem dX10_act_0 : decode cX10_act 0 = .ok (.aload_n 0, 1) := by decide +kernel
theorem dX10_act_1 : decode cX10_act 1 = .ok (.iconst 0, 1) := by decide +kernel
theorem dX10_act_10 : decode cX10_act 10 = .ok (.ifCond .eq 13, 3) := by decide +kernel
theorem dX10_act_2 : decode cX10_act 2 = .ok (.putfield 223, 3) := by decide +kernel
theorem dX10_act_23 : decode cX10_act 23 = .ok (.iconst 0, 1) := by decide +kernel
theorem dX10_act_24 : decode cX10_act 24 = .ok (.ireturn, 1) := by decide +kernel
theorem dX10_act_5 : decode cX10_act 5 = .ok (.aload_n 0, 1) := by decide +kernel
theorem dX10_act_6 : decode cX10_act 6 = .ok (.iload_n 1, 1) := by decide +kernel
theorem dX10_act_7 : decode cX10_act 7 = .ok (.invokevirtual 250, 3) := by decide +kernel
theorem dX10_count_0 : decode cX10_count 0 = .ok (.iload_n 1, 1) := by decide +kernel
theorem dX10_count_1 : decode cX10_count 1 = .ok (.tableswitch 78 0 6 #[43, 48, 53, 58, 63, 68, 73], 43) := by decide +kernel
theorem dX10_count_44 : decode cX10_count 44 = .ok (.aload_n 0, 1) := by decide +kernel
theorem dX10_count_45 : decode cX10_count 45 = .ok (.getfield 7, 3) := by decide +kernel
theorem dX10_count_48 : decode cX10_count 48 = .ok (.ireturn, 1) := by decide +kernel
theorem dX10_count_49 : decode cX10_count 49 = .ok (.aload_n 0, 1) := by decide +kernel
theorem dX10_count_50 : decode cX10_count 50 = .ok (.getfield 54, 3) := by decide +kernel
theorem dX10_count_53 : decode cX10_count 53 = .ok (.ireturn, 1) := by decide +kernel
theorem dX10_count_54 : decode cX10_count 54 = .ok (.aload_n 0, 1) := by decide +kernel
theorem dX10_count_55 : decode cX10_count 55 = .ok (.getfield 123, 3) := by decide +kernel
theorem dX10_count_58 : decode cX10_count 58 = .ok (.ireturn, 1) := by decide +kernel
theorem dX10_count_59 : decode cX10_count 59 = .ok (.aload_n 0, 1) := by decide +kernel
theorem dX10_count_60 : decode cX10_count 60 = .ok (.getfield 132, 3) := by decide +kernel
theorem dX10_count_63 : decode cX10_count 63 = .ok (.ireturn, 1) := by decide +kernel
theorem dX10_count_64 : decode cX10_count 64 = .ok (.aload_n 0, 1) := by decide +kernel
theorem dX10_count_65 : decode cX10_count 65 = .ok (.getfield 141, 3) := by decide +kernel
theorem dX10_count_68 : decode cX10_count 68 = .ok (.ireturn, 1) := by decide +kernel
theorem dX10_count_69 : decode cX10_count 69 = .ok (.aload_n 0, 1) := by decide +kernel
theorem dX10_count_70 : decode cX10_count 70 = .ok (.getfield 60, 3) := by decide +kernel
theorem dX10_count_73 : decode cX10_count 73 = .ok (.ireturn, 1) := by decide +kernel
theorem dX10_count_74 : decode cX10_count 74 = .ok (.aload_n 0, 1) := by decide +kernel
theorem dX10_count_75 : decode cX10_count 75 = .ok (.getfield 223, 3) := by decide +kernel
theorem dX10_count_78 : decode cX10_count 78 = .ok (.ireturn, 1) := by decide +kernel
theorem dX10_count_79 : decode cX10_count 79 = .ok (.bipush (-2), 2) := by decide +kernel
theorem dX10_count_81 : decode cX10_count 81 = .ok (.ireturn, 1) := by decide +kernel
theorem dX10_image_0 : decode cX10_image 0 = .ok (.aload_n 0, 1) := by decide +kernel
theorem dX10_image_1 : decode cX10_image 1 = .ok (.iconst 1, 1) := by decide +kernel
theorem dX10_image_10 : decode cX10_image 10 = .ok (.putfield 154, 3) := by decide +kernel
theorem dX10_image_101 : decode cX10_image 101 = .ok (.aload_n 0, 1) := by decide +kernel
theorem dX10_image_102 : decode cX10_image 102 = .ok (.getfield 187, 3) := by decide +kernel
theorem dX10_image_105 : decode cX10_image 105 = .ok (.iload_n 1, 1) := by decide +kernel
theorem dX10_image_106 : decode cX10_image 106 = .ok (.aload_n 0, 1) := by decide +kernel
theorem dX10_image_107 : decode cX10_image 107 = .ok (.getfield 31, 3) := by decide +kernel
theorem dX10_image_110 : decode cX10_image 110 = .ok (.iload_n 1, 1) := by decide +kernel
theorem dX10_image_111 : decode cX10_image 111 = .ok (.iaload, 1) := by decide +kernel
theorem dX10_image_112 : decode cX10_image 112 = .ok (.iastore, 1) := by decide +kernel
theorem dX10_image_113 : decode cX10_image 113 = .ok (.aload_n 0, 1) := by decide +kernel
theorem dX10_image_114 : decode cX10_image 114 = .ok (.getfield 190, 3) := by decide +kernel
theorem dX10_image_117 : decode cX10_image 117 = .ok (.iload_n 1, 1) := by decide +kernel
theorem dX10_image_118 : decode cX10_image 118 = .ok (.aload_n 0, 1) := by decide +kernel
theorem dX10_image_119 : decode cX10_image 119 = .ok (.getfield 35, 3) := by decide +kernel
theorem dX10_image_122 : decode cX10_image 122 = .ok (.iload_n 1, 1) := by decide +kernel
theorem dX10_image_123 : decode cX10_image 123 = .ok (.iaload, 1) := by decide +kernel
theorem dX10_image_124 : decode cX10_image 124 = .ok (.iastore, 1) := by decide +kernel
theorem dX10_image_125 : decode cX10_image 125 = .ok (.aload_n 0, 1) := by decide +kernel
theorem dX10_image_126 : decode cX10_image 126 = .ok (.getfield 193, 3) := by decide +kernel
theorem dX10_image_129 : decode cX10_image 129 = .ok (.iload_n 1, 1) := by decide +kernel
theorem dX10_image_13 : decode cX10_image 13 = .ok (.aload_n 0, 1) := by decide +kernel
theorem dX10_image_130 : decode cX10_image 130 = .ok (.aload_n 0, 1) := by decide +kernel
theorem dX10_image_131 : decode cX10_image 131 = .ok (.getfield 38, 3) := by decide +kernel
theorem dX10_image_134 : decode cX10_image 134 = .ok (.iload_n 1, 1) := by decide +kernel
theorem dX10_image_135 : decode cX10_image 135 = .ok (.iaload, 1) := by decide +kernel
theorem dX10_image_136 : decode cX10_image 136 = .ok (.iastore, 1) := by decide +kernel
theorem dX10_image_137 : decode cX10_image 137 = .ok (.aload_n 0, 1) := by decide +kernel
theorem dX10_image_138 : decode cX10_image 138 = .ok (.getfield 196, 3) := by decide +kernel
theorem dX10_image_14 : decode cX10_image 14 = .ok (.aload_n 0, 1) := by decide +kernel
theorem dX10_image_141 : decode cX10_image 141 = .ok (.iload_n 1, 1) := by decide +kernel
theorem dX10_image_142 : decode cX10_image 142 = .ok (.aload_n 0, 1) := by decide +kernel
theorem dX10_image_143 : decode cX10_image 143 = .ok (.getfield 41, 3) := by decide +kernel
theorem dX10_image_146 : decode cX10_image 146 = .ok (.iload_n 1, 1) := by decide +kernel
theorem dX10_image_147 : decode cX10_image 147 = .ok (.iaload, 1) := by decide +kernel
theorem dX10_image_148 : decode cX10_image 148 = .ok (.iastore, 1) := by decide +kernel
theorem dX10_image_149 : decode cX10_image 149 = .ok (.aload_n 0, 1) := by decide +kernel
theorem dX10_image_15 : decode cX10_image 15 = .ok (.getfield 7, 3) := by decide +kernel
theorem dX10_image_150 : decode cX10_image 150 = .ok (.getfield 199, 3) := by decide +kernel
theorem dX10_image_153 : decode cX10_image 153 = .ok (.iload_n 1, 1) := by decide +kernel
theorem dX10_image_154 : decode cX10_image 154 = .ok (.aload_n 0, 1) := by decide +kernel
theorem dX10_image_155 : decode cX10_image 155 = .ok (.getfield 44, 3) := by decide +kernel
theorem dX10_image_158 : decode cX10_image 158 = .ok (.iload_n 1, 1) := by decide +kernel
theorem dX10_image_159 : decode cX10_image 159 = .ok (.iaload, 1) := by decide +kernel
theorem dX10_image_160 : decode cX10_image 160 = .ok (.iastore, 1) := by decide +kernel
theorem dX10_image_161 : decode cX10_image 161 = .ok (.aload_n 0, 1) := by decide +kernel
theorem dX10_image_162 : decode cX10_image 162 = .ok (.getfield 220, 3) := by decide +kernel
theorem dX10_image_165 : decode cX10_image 165 = .ok (.iload_n 1, 1) := by decide +kernel
theorem dX10_image_166 : decode cX10_image 166 = .ok (.aload_n 0, 1) := by decide +kernel
theorem dX10_image_167 : decode cX10_image 167 = .ok (.getfield 50, 3) := by decide +kernel
theorem dX10_image_170 : decode cX10_image 170 = .ok (.iload_n 1, 1) := by decide +kernel
theorem dX10_image_171 : decode cX10_image 171 = .ok (.baload, 1) := by decide +kernel
theorem dX10_image_172 : decode cX10_image 172 = .ok (.bastore, 1) := by decide +kernel
theorem dX10_image_173 : decode cX10_image 173 = .ok (.aload_n 0, 1) := by decide +kernel
theorem dX10_image_174 : decode cX10_image 174 = .ok (.getfield 205, 3) := by decide +kernel
theorem dX10_image_177 : decode cX10_image 177 = .ok (.iload_n 1, 1) := by decide +kernel
theorem dX10_image_178 : decode cX10_image 178 = .ok (.aload_n 0, 1) := by decide +kernel
theorem dX10_image_179 : decode cX10_image 179 = .ok (.getfield 126, 3) := by decide +kernel
theorem dX10_image_18 : decode cX10_image 18 = .ok (.putfield 157, 3) := by decide +kernel
theorem dX10_image_182 : decode cX10_image 182 = .ok (.iload_n 1, 1) := by decide +kernel
theorem dX10_image_183 : decode cX10_image 183 = .ok (.iaload, 1) := by decide +kernel
theorem dX10_image_184 : decode cX10_image 184 = .ok (.iastore, 1) := by decide +kernel
theorem dX10_image_185 : decode cX10_image 185 = .ok (.iinc 1 1, 3) := by decide +kernel
theorem dX10_image_188 : decode cX10_image 188 = .ok (.goto (-93), 3) := by decide +kernel
theorem dX10_image_191 : decode cX10_image 191 = .ok (.iconst 0, 1) := by decide +kernel
theorem dX10_image_192 : decode cX10_image 192 = .ok (.istore_n 1, 1) := by decide +kernel
theorem dX10_image_193 : decode cX10_image 193 = .ok (.iload_n 1, 1) := by decide +kernel
theorem dX10_image_194 : decode cX10_image 194 = .ok (.bipush 28, 2) := by decide +kernel
theorem dX10_image_196 : decode cX10_image 196 = .ok (.if_icmp .ge 21, 3) := by decide +kernel
theorem dX10_image_199 : decode cX10_image 199 = .ok (.aload_n 0, 1) := by decide +kernel
theorem dX10_image_2 : decode cX10_image 2 = .ok (.putfield 150, 3) := by decide +kernel
theorem dX10_image_200 : decode cX10_image 200 = .ok (.getfield 202, 3) := by decide +kernel
theorem dX10_image_203 : decode cX10_image 203 = .ok (.iload_n 1, 1) := by decide +kernel
theorem dX10_image_204 : decode cX10_image 204 = .ok (.aload_n 0, 1) := by decide +kernel
theorem dX10_image_205 : decode cX10_image 205 = .ok (.getfield 47, 3) := by decide +kernel
theorem dX10_image_208 : decode cX10_image 208 = .ok (.iload_n 1, 1) := by decide +kernel
theorem dX10_image_209 : decode cX10_image 209 = .ok (.iaload, 1) := by decide +kernel
theorem dX10_image_21 : decode cX10_image 21 = .ok (.aload_n 0, 1) := by decide +kernel
theorem dX10_image_210 : decode cX10_image 210 = .ok (.iastore, 1) := by decide +kernel
theorem dX10_image_211 : decode cX10_image 211 = .ok (.iinc 1 1, 3) := by decide +kernel
theorem dX10_image_214 : decode cX10_image 214 = .ok (.goto (-21), 3) := by decide +kernel
theorem dX10_image_217 : decode cX10_image 217 = .ok (.iconst 0, 1) := by decide +kernel
theorem dX10_image_218 : decode cX10_image 218 = .ok (.istore_n 1, 1) := by decide +kernel
theorem dX10_image_219 : decode cX10_image 219 = .ok (.iload_n 1, 1) := by decide +kernel
theorem dX10_image_22 : decode cX10_image 22 = .ok (.aload_n 0, 1) := by decide +kernel
theorem dX10_image_220 : decode cX10_image 220 = .ok (.bipush 6, 2) := by decide +kernel
theorem dX10_image_222 : decode cX10_image 222 = .ok (.if_icmp .ge 33, 3) := by decide +kernel
theorem dX10_image_225 : decode cX10_image 225 = .ok (.aload_n 0, 1) := by decide +kernel
theorem dX10_image_226 : decode cX10_image 226 = .ok (.getfield 208, 3) := by decide +kernel
theorem dX10_image_229 : decode cX10_image 229 = .ok (.iload_n 1, 1) := by decide +kernel
theorem dX10_image_23 : decode cX10_image 23 = .ok (.getfield 13, 3) := by decide +kernel
theorem dX10_image_230 : decode cX10_image 230 = .ok (.aload_n 0, 1) := by decide +kernel
theorem dX10_image_231 : decode cX10_image 231 = .ok (.getfield 135, 3) := by decide +kernel
theorem dX10_image_234 : decode cX10_image 234 = .ok (.iload_n 1, 1) := by decide +kernel
theorem dX10_image_235 : decode cX10_image 235 = .ok (.iaload, 1) := by decide +kernel
theorem dX10_image_236 : decode cX10_image 236 = .ok (.iastore, 1) := by decide +kernel
theorem dX10_image_237 : decode cX10_image 237 = .ok (.aload_n 0, 1) := by decide +kernel
theorem dX10_image_238 : decode cX10_image 238 = .ok (.getfield 211, 3) := by decide +kernel
theorem dX10_image_241 : decode cX10_image 241 = .ok (.iload_n 1, 1) := by decide +kernel
theorem dX10_image_242 : decode cX10_image 242 = .ok (.aload_n 0, 1) := by decide +kernel
theorem dX10_image_243 : decode cX10_image 243 = .ok (.getfield 138, 3) := by decide +kernel
theorem dX10_image_246 : decode cX10_image 246 = .ok (.iload_n 1, 1) := by decide +kernel
theorem dX10_image_247 : decode cX10_image 247 = .ok (.iaload, 1) := by decide +kernel
theorem dX10_image_248 : decode cX10_image 248 = .ok (.iastore, 1) := by decide +kernel
theorem dX10_image_249 : decode cX10_image 249 = .ok (.iinc 1 1, 3) := by decide +kernel
theorem dX10_image_252 : decode cX10_image 252 = .ok (.goto (-33), 3) := by decide +kernel
theorem dX10_image_255 : decode cX10_image 255 = .ok (.iconst 0, 1) := by decide +kernel
theorem dX10_image_256 : decode cX10_image 256 = .ok (.istore_n 1, 1) := by decide +kernel
theorem dX10_image_257 : decode cX10_image 257 = .ok (.iload_n 1, 1) := by decide +kernel
theorem dX10_image_258 : decode cX10_image 258 = .ok (.bipush 8, 2) := by decide +kernel
theorem dX10_image_26 : decode cX10_image 26 = .ok (.putfield 160, 3) := by decide +kernel
theorem dX10_image_260 : decode cX10_image 260 = .ok (.if_icmp .ge 33, 3) := by decide +kernel
theorem dX10_image_263 : decode cX10_image 263 = .ok (.aload_n 0, 1) := by decide +kernel
theorem dX10_image_264 : decode cX10_image 264 = .ok (.getfield 214, 3) := by decide +kernel
theorem dX10_image_267 : decode cX10_image 267 = .ok (.iload_n 1, 1) := by decide +kernel
theorem dX10_image_268 : decode cX10_image 268 = .ok (.aload_n 0, 1) := by decide +kernel
theorem dX10_image_269 : decode cX10_image 269 = .ok (.getfield 144, 3) := by decide +kernel
theorem dX10_image_272 : decode cX10_image 272 = .ok (.iload_n 1, 1) := by decide +kernel
theorem dX10_image_273 : decode cX10_image 273 = .ok (.iaload, 1) := by decide +kernel
theorem dX10_image_274 : decode cX10_image 274 = .ok (.iastore, 1) := by decide +kernel
theorem dX10_image_275 : decode cX10_image 275 = .ok (.aload_n 0, 1) := by decide +kernel
theorem dX10_image_276 : decode cX10_image 276 = .ok (.getfield 217, 3) := by decide +kernel
theorem dX10_image_279 : decode cX10_image 279 = .ok (.iload_n 1, 1) := by decide +kernel
theorem dX10_image_280 : decode cX10_image 280 = .ok (.aload_n 0, 1) := by decide +kernel
theorem dX10_image_281 : decode cX10_image 281 = .ok (.getfield 147, 3) := by decide +kernel
theorem dX10_image_284 : decode cX10_image 284 = .ok (.iload_n 1, 1) := by decide +kernel
theorem dX10_image_285 : decode cX10_image 285 = .ok (.iaload, 1) := by decide +kernel
theorem dX10_image_286 : decode cX10_image 286 = .ok (.iastore, 1) := by decide +kernel
theorem dX10_image_287 : decode cX10_image 287 = .ok (.iinc 1 1, 3) := by decide +kernel
theorem dX10_image_29 : decode cX10_image 29 = .ok (.aload_n 0, 1) := by decide +kernel
theorem dX10_image_290 : decode cX10_image 290 = .ok (.goto (-33), 3) := by decide +kernel
theorem dX10_image_293 : decode cX10_image 293 = .ok (.aload_n 0, 1) := by decide +kernel
theorem dX10_image_294 : decode cX10_image 294 = .ok (.getfield 7, 3) := by decide +kernel
theorem dX10_image_297 : decode cX10_image 297 = .ok (.ireturn, 1) := by decide +kernel
theorem dX10_image_30 : decode cX10_image 30 = .ok (.aload_n 0, 1) := by decide +kernel
theorem dX10_image_31 : decode cX10_image 31 = .ok (.getfield 16, 3) := by decide +kernel
theorem dX10_image_34 : decode cX10_image 34 = .ok (.putfield 163, 3) := by decide +kernel
theorem dX10_image_37 : decode cX10_image 37 = .ok (.aload_n 0, 1) := by decide +kernel
theorem dX10_image_38 : decode cX10_image 38 = .ok (.aload_n 0, 1) := by decide +kernel
theorem dX10_image_39 : decode cX10_image 39 = .ok (.getfield 19, 3) := by decide +kernel
theorem dX10_image_42 : decode cX10_image 42 = .ok (.putfield 166, 3) := by decide +kernel
theorem dX10_image_45 : decode cX10_image 45 = .ok (.aload_n 0, 1) := by decide +kernel
theorem dX10_image_46 : decode cX10_image 46 = .ok (.aload_n 0, 1) := by decide +kernel
theorem dX10_image_47 : decode cX10_image 47 = .ok (.getfield 22, 3) := by decide +kernel
theorem dX10_image_5 : decode cX10_image 5 = .ok (.aload_n 0, 1) := by decide +kernel
theorem dX10_image_50 : decode cX10_image 50 = .ok (.putfield 169, 3) := by decide +kernel
theorem dX10_image_53 : decode cX10_image 53 = .ok (.aload_n 0, 1) := by decide +kernel
theorem dX10_image_54 : decode cX10_image 54 = .ok (.aload_n 0, 1) := by decide +kernel
theorem dX10_image_55 : decode cX10_image 55 = .ok (.getfield 25, 3) := by decide +kernel
theorem dX10_image_58 : decode cX10_image 58 = .ok (.putfield 172, 3) := by decide +kernel
theorem dX10_image_6 : decode cX10_image 6 = .ok (.aload_n 0, 1) := by decide +kernel
theorem dX10_image_61 : decode cX10_image 61 = .ok (.aload_n 0, 1) := by decide +kernel
theorem dX10_image_62 : decode cX10_image 62 = .ok (.aload_n 0, 1) := by decide +kernel
theorem dX10_image_63 : decode cX10_image 63 = .ok (.getfield 28, 3) := by decide +kernel
theorem dX10_image_66 : decode cX10_image 66 = .ok (.putfield 175, 3) := by decide +kernel
theorem dX10_image_69 : decode cX10_image 69 = .ok (.aload_n 0, 1) := by decide +kernel
theorem dX10_image_7 : decode cX10_image 7 = .ok (.getfield 57, 3) := by decide +kernel
theorem dX10_image_70 : decode cX10_image 70 = .ok (.aload_n 0, 1) := by decide +kernel
theorem dX10_image_71 : decode cX10_image 71 = .ok (.getfield 123, 3) := by decide +kernel
theorem dX10_image_74 : decode cX10_image 74 = .ok (.putfield 178, 3) := by decide +kernel
theorem dX10_image_77 : decode cX10_image 77 = .ok (.aload_n 0, 1) := by decide +kernel
theorem dX10_image_78 : decode cX10_image 78 = .ok (.aload_n 0, 1) := by decide +kernel
theorem dX10_image_79 : decode cX10_image 79 = .ok (.getfield 132, 3) := by decide +kernel
theorem dX10_image_82 : decode cX10_image 82 = .ok (.putfield 181, 3) := by decide +kernel
theorem dX10_image_85 : decode cX10_image 85 = .ok (.aload_n 0, 1) := by decide +kernel
theorem dX10_image_86 : decode cX10_image 86 = .ok (.aload_n 0, 1) := by decide +kernel
theorem dX10_image_87 : decode cX10_image 87 = .ok (.getfield 141, 3) := by decide +kernel
theorem dX10_image_90 : decode cX10_image 90 = .ok (.putfield 184, 3) := by decide +kernel
theorem dX10_image_93 : decode cX10_image 93 = .ok (.iconst 0, 1) := by decide +kernel
theorem dX10_image_94 : decode cX10_image 94 = .ok (.istore_n 1, 1) := by decide +kernel
theorem dX10_image_95 : decode cX10_image 95 = .ok (.iload_n 1, 1) := by decide +kernel
theorem dX10_image_96 : decode cX10_image 96 = .ok (.bipush 7, 2) := by decide +kernel
theorem dX10_image_98 : decode cX10_image 98 = .ok (.if_icmp .ge 93, 3) := by decide +kernel
theorem dX10_taken_0 : decode cX10_taken 0 = .ok (.aload_n 0, 1) := by decide +kernel
theorem dX10_taken_1 : decode cX10_taken 1 = .ok (.iload_n 2, 1) := by decide +kernel
theorem dX10_taken_11 : decode cX10_taken 11 = .ok (.bipush (-2), 2) := by decide +kernel
theorem dX10_taken_13 : decode cX10_taken 13 = .ok (.ireturn, 1) := by decide +kernel
theorem dX10_taken_14 : decode cX10_taken 14 = .ok (.aload_n 0, 1) := by decide +kernel
theorem dX10_taken_15 : decode cX10_taken 15 = .ok (.iload_n 1, 1) := by decide +kernel
theorem dX10_taken_16 : decode cX10_taken 16 = .ok (.invokevirtual 250, 3) := by decide +kernel
theorem dX10_taken_19 : decode cX10_taken 19 = .ok (.ifCond .ne 6, 3) := by decide +kernel
theorem dX10_taken_2 : decode cX10_taken 2 = .ok (.iconst 0, 1) := by decide +kernel
theorem dX10_taken_22 : decode cX10_taken 22 = .ok (.bipush (-11), 2) := by decide +kernel
theorem dX10_taken_24 : decode cX10_taken 24 = .ok (.ireturn, 1) := by decide +kernel
theorem dX10_taken_3 : decode cX10_taken 3 = .ok (.bipush 6, 2) := by decide +kernel
theorem dX10_taken_5 : decode cX10_taken 5 = .ok (.invokevirtual 242, 3) := by decide +kernel
theorem dX10_taken_8 : decode cX10_taken 8 = .ok (.ifCond .ne 6, 3) := by decide +kernel
theorem dX10_trace_0 : decode cX10_trace 0 = .ok (.aload_n 0, 1) := by decide +kernel
theorem dX10_trace_1 : decode cX10_trace 1 = .ok (.iload_n 1, 1) := by decide +kernel
theorem dX10_trace_11 : decode cX10_trace 11 = .ok (.iload_n 1, 1) := by decide +kernel
theorem dX10_trace_12 : decode cX10_trace 12 = .ok (.aload_n 0, 1) := by decide +kernel
theorem dX10_trace_13 : decode cX10_trace 13 = .ok (.getfield 223, 3) := by decide +kernel
theorem dX10_trace_16 : decode cX10_trace 16 = .ok (.if_icmp .ge 12, 3) := by decide +kernel
theorem dX10_trace_2 : decode cX10_trace 2 = .ok (.iconst 0, 1) := by decide +kernel
theorem dX10_trace_28 : decode cX10_trace 28 = .ok (.iconst (-1), 1) := by decide +kernel
theorem dX10_trace_29 : decode cX10_trace 29 = .ok (.ireturn, 1) := by decide +kernel
theorem dX10_trace_3 : decode cX10_trace 3 = .ok (.bipush 19, 2) := by decide +kernel
theorem dX10_trace_5 : decode cX10_trace 5 = .ok (.invokevirtual 242, 3) := by decide +kernel
theorem dX10_trace_8 : decode cX10_trace 8 = .ok (.ifCond .eq 20, 3) := by decide +kernel
theorem dX10_undo_0 : decode cX10_undo 0 = .ok (.aload_n 0, 1) := by decide +kernel
theorem dX10_undo_1 : decode cX10_undo 1 = .ok (.getfield 150, 3) := by decide +kernel
theorem dX10_undo_4 : decode cX10_undo 4 = .ok (.ifCond .ne 6, 3) := by decide +kernel
theorem dX10_undo_7 : decode cX10_undo 7 = .ok (.bipush (-3), 2) := by decide +kernel
theorem dX10_undo_9 : decode cX10_undo 9 = .ok (.ireturn, 1) := by decide +kernel
theorem dX7_becomeAs_0 : decode cX7_becomeAs 0 = .ok (.aload_n 0, 1) := by decide +kernel
theorem dX7_becomeAs_1 : decode cX7_becomeAs 1 = .ok (.aload_n 1, 1) := by decide +kernel
theorem dX7_becomeAs_10 : decode cX7_becomeAs 10 = .ok (.iload_n 2, 1) := by decide +kernel
theorem dX7_becomeAs_100 : decode cX7_becomeAs 100 = .ok (.getfield 51, 3) := by decide +kernel
theorem dX7_becomeAs_103 : decode cX7_becomeAs 103 = .ok (.invokevirtual 70, 3) := by decide +kernel
theorem dX7_becomeAs_106 : decode cX7_becomeAs 106 = .ok (.aload_n 0, 1) := by decide +kernel
theorem dX7_becomeAs_107 : decode cX7_becomeAs 107 = .ok (.getfield 55, 3) := by decide +kernel
theorem dX7_becomeAs_11 : decode cX7_becomeAs 11 = .ok (.aload_n 0, 1) := by decide +kernel
theorem dX7_becomeAs_110 : decode cX7_becomeAs 110 = .ok (.aload_n 1, 1) := by decide +kernel
theorem dX7_becomeAs_111 : decode cX7_becomeAs 111 = .ok (.getfield 55, 3) := by decide +kernel
theorem dX7_becomeAs_114 : decode cX7_becomeAs 114 = .ok (.invokevirtual 70, 3) := by decide +kernel
theorem dX7_becomeAs_117 : decode cX7_becomeAs 117 = .ok (.aload_n 0, 1) := by decide +kernel
theorem dX7_becomeAs_118 : decode cX7_becomeAs 118 = .ok (.getfield 58, 3) := by decide +kernel
theorem dX7_becomeAs_12 : decode cX7_becomeAs 12 = .ok (.getfield 17, 3) := by decide +kernel
theorem dX7_becomeAs_121 : decode cX7_becomeAs 121 = .ok (.aload_n 1, 1) := by decide +kernel
theorem dX7_becomeAs_122 : decode cX7_becomeAs 122 = .ok (.getfield 58, 3) := by decide +kernel
theorem dX7_becomeAs_125 : decode cX7_becomeAs 125 = .ok (.invokevirtual 70, 3) := by decide +kernel
theorem dX7_becomeAs_128 : decode cX7_becomeAs 128 = .ok (.return_, 1) := by decide +kernel
theorem dX7_becomeAs_15 : decode cX7_becomeAs 15 = .ok (.if_icmp .ge 24, 3) := by decide +kernel
theorem dX7_becomeAs_2 : decode cX7_becomeAs 2 = .ok (.getfield 17, 3) := by decide +kernel
theorem dX7_becomeAs_39 : decode cX7_becomeAs 39 = .ok (.aload_n 0, 1) := by decide +kernel
theorem dX7_becomeAs_40 : decode cX7_becomeAs 40 = .ok (.aload_n 1, 1) := by decide +kernel
theorem dX7_becomeAs_41 : decode cX7_becomeAs 41 = .ok (.getfield 21, 3) := by decide +kernel
theorem dX7_becomeAs_44 : decode cX7_becomeAs 44 = .ok (.putfield 21, 3) := by decide +kernel
theorem dX7_becomeAs_47 : decode cX7_becomeAs 47 = .ok (.aload_n 0, 1) := by decide +kernel
theorem dX7_becomeAs_48 : decode cX7_becomeAs 48 = .ok (.aload_n 1, 1) := by decide +kernel
theorem dX7_becomeAs_49 : decode cX7_becomeAs 49 = .ok (.getfield 24, 3) := by decide +kernel
theorem dX7_becomeAs_5 : decode cX7_becomeAs 5 = .ok (.putfield 17, 3) := by decide +kernel
theorem dX7_becomeAs_52 : decode cX7_becomeAs 52 = .ok (.putfield 24, 3) := by decide +kernel
theorem dX7_becomeAs_55 : decode cX7_becomeAs 55 = .ok (.aload_n 0, 1) := by decide +kernel
theorem dX7_becomeAs_56 : decode cX7_becomeAs 56 = .ok (.aload_n 1, 1) := by decide +kernel
theorem dX7_becomeAs_57 : decode cX7_becomeAs 57 = .ok (.getfield 27, 3) := by decide +kernel
theorem dX7_becomeAs_60 : decode cX7_becomeAs 60 = .ok (.putfield 27, 3) := by decide +kernel
theorem dX7_becomeAs_63 : decode cX7_becomeAs 63 = .ok (.aload_n 0, 1) := by decide +kernel
theorem dX7_becomeAs_64 : decode cX7_becomeAs 64 = .ok (.aload_n 1, 1) := by decide +kernel
theorem dX7_becomeAs_65 : decode cX7_becomeAs 65 = .ok (.getfield 30, 3) := by decide +kernel
theorem dX7_becomeAs_68 : decode cX7_becomeAs 68 = .ok (.putfield 30, 3) := by decide +kernel
theorem dX7_becomeAs_71 : decode cX7_becomeAs 71 = .ok (.aload_n 0, 1) := by decide +kernel
theorem dX7_becomeAs_72 : decode cX7_becomeAs 72 = .ok (.aload_n 1, 1) := by decide +kernel
theorem dX7_becomeAs_73 : decode cX7_becomeAs 73 = .ok (.getfield 33, 3) := by decide +kernel
theorem dX7_becomeAs_76 : decode cX7_becomeAs 76 = .ok (.putfield 33, 3) := by decide +kernel
theorem dX7_becomeAs_79 : decode cX7_becomeAs 79 = .ok (.aload_n 0, 1) := by decide +kernel
theorem dX7_becomeAs_8 : decode cX7_becomeAs 8 = .ok (.iconst 0, 1) := by decide +kernel
theorem dX7_becomeAs_80 : decode cX7_becomeAs 80 = .ok (.aload_n 1, 1) := by decide +kernel
theorem dX7_becomeAs_81 : decode cX7_becomeAs 81 = .ok (.getfield 36, 3) := by decide +kernel
theorem dX7_becomeAs_84 : decode cX7_becomeAs 84 = .ok (.putfield 36, 3) := by decide +kernel
theorem dX7_becomeAs_87 : decode cX7_becomeAs 87 = .ok (.aload_n 0, 1) := by decide +kernel
theorem dX7_becomeAs_88 : decode cX7_becomeAs 88 = .ok (.aload_n 1, 1) := by decide +kernel
theorem dX7_becomeAs_89 : decode cX7_becomeAs 89 = .ok (.getfield 42, 3) := by decide +kernel
theorem dX7_becomeAs_9 : decode cX7_becomeAs 9 = .ok (.istore_n 2, 1) := by decide +kernel
theorem dX7_becomeAs_92 : decode cX7_becomeAs 92 = .ok (.putfield 42, 3) := by decide +kernel
theorem dX7_becomeAs_95 : decode cX7_becomeAs 95 = .ok (.aload_n 0, 1) := by decide +kernel
theorem dX7_becomeAs_96 : decode cX7_becomeAs 96 = .ok (.getfield 51, 3) := by decide +kernel
theorem dX7_becomeAs_99 : decode cX7_becomeAs 99 = .ok (.aload_n 1, 1) := by decide +kernel
theorem dX8_become_0 : decode cX8_become 0 = .ok (.aload_n 0, 1) := by decide +kernel
theorem dX8_become_1 : decode cX8_become 1 = .ok (.iload_n 1, 1) := by decide +kernel
theorem dX8_become_10 : decode cX8_become 10 = .ok (.invokestatic 20, 3) := by decide +kernel
theorem dX8_become_13 : decode cX8_become 13 = .ok (.invokestatic 26, 3) := by decide +kernel
theorem dX8_become_16 : decode cX8_become 16 = .ok (.putfield 13, 3) := by decide +kernel
theorem dX8_become_19 : decode cX8_become 19 = .ok (.iconst 0, 1) := by decide +kernel
theorem dX8_become_2 : decode cX8_become 2 = .ok (.putfield 9, 3) := by decide +kernel
theorem dX8_become_20 : decode cX8_become 20 = .ok (.istore_n 3, 1) := by decide +kernel
theorem dX8_become_21 : decode cX8_become 21 = .ok (.iload_n 3, 1) := by decide +kernel
theorem dX8_become_22 : decode cX8_become 22 = .ok (.aload_n 0, 1) := by decide +kernel
theorem dX8_become_23 : decode cX8_become 23 = .ok (.getfield 13, 3) := by decide +kernel
theorem dX8_become_26 : decode cX8_become 26 = .ok (.if_icmp .ge 16, 3) := by decide +kernel
theorem dX8_become_29 : decode cX8_become 29 = .ok (.aload_n 0, 1) := by decide +kernel
theorem dX8_become_30 : decode cX8_become 30 = .ok (.getfield 16, 3) := by decide +kernel
theorem dX8_become_33 : decode cX8_become 33 = .ok (.iload_n 3, 1) := by decide +kernel
theorem dX8_become_34 : decode cX8_become 34 = .ok (.lconst 0, 1) := by decide +kernel
theorem dX8_become_35 : decode cX8_become 35 = .ok (.lastore, 1) := by decide +kernel
theorem dX8_become_36 : decode cX8_become 36 = .ok (.iinc 3 1, 3) := by decide +kernel
theorem dX8_become_39 : decode cX8_become 39 = .ok (.goto (-18), 3) := by decide +kernel
theorem dX8_become_42 : decode cX8_become 42 = .ok (.return_, 1) := by decide +kernel
theorem dX8_become_5 : decode cX8_become 5 = .ok (.aload_n 0, 1) := by decide +kernel
theorem dX8_become_6 : decode cX8_become 6 = .ok (.iconst 0, 1) := by decide +kernel
theorem dX8_become_7 : decode cX8_become 7 = .ok (.iload_n 2, 1) := by decide +kernel
theorem dX8_become_8 : decode cX8_become 8 = .ok (.bipush 60, 2) := by decide +kernel
theorem dX9_act_0 : decode cX9_act 0 = .ok (.aload_n 0, 1) := by decide +kernel
theorem dX9_act_1 : decode cX9_act 1 = .ok (.getfield 54, 3) := by decide +kernel
theorem dX9_act_12 : decode cX9_act 12 = .ok (.iload_n 1, 1) := by decide +kernel
theorem dX9_act_13 : decode cX9_act 13 = .ok (.invokevirtual 92, 3) := by decide +kernel
theorem dX9_act_16 : decode cX9_act 16 = .ok (.ifCond .eq 12, 3) := by decide +kernel
theorem dX9_act_28 : decode cX9_act 28 = .ok (.iconst 0, 1) := by decide +kernel
theorem dX9_act_29 : decode cX9_act 29 = .ok (.ireturn, 1) := by decide +kernel
theorem dX9_act_4 : decode cX9_act 4 = .ok (.iconst 0, 1) := by decide +kernel
theorem dX9_act_5 : decode cX9_act 5 = .ok (.putfield 288, 3) := by decide +kernel
theorem dX9_act_8 : decode cX9_act 8 = .ok (.aload_n 0, 1) := by decide +kernel
theorem dX9_act_9 : decode cX9_act 9 = .ok (.getfield 31, 3) := by decide +kernel
theorem dX9_count_0 : decode cX9_count 0 = .ok (.iload_n 1, 1) := by decide +kernel
theorem dX9_count_1 : decode cX9_count 1 = .ok (.tableswitch 105 0 6 #[43, 51, 56, 67, 78, 89, 97], 43) := by decide +kernel
theorem dX9_count_102 : decode cX9_count 102 = .ok (.getfield 288, 3) := by decide +kernel
theorem dX9_count_105 : decode cX9_count 105 = .ok (.ireturn, 1) := by decide +kernel
theorem dX9_count_106 : decode cX9_count 106 = .ok (.bipush (-2), 2) := by decide +kernel
theorem dX9_count_108 : decode cX9_count 108 = .ok (.ireturn, 1) := by decide +kernel
theorem dX9_count_44 : decode cX9_count 44 = .ok (.aload_n 0, 1) := by decide +kernel
theorem dX9_count_45 : decode cX9_count 45 = .ok (.getfield 31, 3) := by decide +kernel
theorem dX9_count_48 : decode cX9_count 48 = .ok (.getfield 76, 3) := by decide +kernel
theorem dX9_count_51 : decode cX9_count 51 = .ok (.ireturn, 1) := by decide +kernel
theorem dX9_count_52 : decode cX9_count 52 = .ok (.aload_n 0, 1) := by decide +kernel
theorem dX9_count_53 : decode cX9_count 53 = .ok (.getfield 17, 3) := by decide +kernel
theorem dX9_count_56 : decode cX9_count 56 = .ok (.ireturn, 1) := by decide +kernel
theorem dX9_count_57 : decode cX9_count 57 = .ok (.aload_n 0, 1) := by decide +kernel
theorem dX9_count_58 : decode cX9_count 58 = .ok (.getfield 31, 3) := by decide +kernel
theorem dX9_count_61 : decode cX9_count 61 = .ok (.getfield 179, 3) := by decide +kernel
theorem dX9_count_64 : decode cX9_count 64 = .ok (.getfield 232, 3) := by decide +kernel
theorem dX9_count_67 : decode cX9_count 67 = .ok (.ireturn, 1) := by decide +kernel
theorem dX9_count_68 : decode cX9_count 68 = .ok (.aload_n 0, 1) := by decide +kernel
theorem dX9_count_69 : decode cX9_count 69 = .ok (.getfield 31, 3) := by decide +kernel
theorem dX9_count_72 : decode cX9_count 72 = .ok (.getfield 249, 3) := by decide +kernel
theorem dX9_count_75 : decode cX9_count 75 = .ok (.getfield 232, 3) := by decide +kernel
theorem dX9_count_78 : decode cX9_count 78 = .ok (.ireturn, 1) := by decide +kernel
theorem dX9_count_79 : decode cX9_count 79 = .ok (.aload_n 0, 1) := by decide +kernel
theorem dX9_count_80 : decode cX9_count 80 = .ok (.getfield 31, 3) := by decide +kernel
theorem dX9_count_83 : decode cX9_count 83 = .ok (.getfield 265, 3) := by decide +kernel
theorem dX9_count_86 : decode cX9_count 86 = .ok (.getfield 232, 3) := by decide +kernel
theorem dX9_count_89 : decode cX9_count 89 = .ok (.ireturn, 1) := by decide +kernel
theorem dX9_count_90 : decode cX9_count 90 = .ok (.aload_n 0, 1) := by decide +kernel
theorem dX9_count_91 : decode cX9_count 91 = .ok (.getfield 24, 3) := by decide +kernel
theorem dX9_count_94 : decode cX9_count 94 = .ok (.getfield 146, 3) := by decide +kernel
theorem dX9_count_97 : decode cX9_count 97 = .ok (.ireturn, 1) := by decide +kernel
theorem dX9_count_98 : decode cX9_count 98 = .ok (.aload_n 0, 1) := by decide +kernel
theorem dX9_count_99 : decode cX9_count 99 = .ok (.getfield 54, 3) := by decide +kernel
theorem dX9_image_0 : decode cX9_image 0 = .ok (.aload_n 0, 1) := by decide +kernel
theorem dX9_image_1 : decode cX9_image 1 = .ok (.getfield 35, 3) := by decide +kernel
theorem dX9_image_11 : decode cX9_image 11 = .ok (.aload_n 0, 1) := by decide +kernel
theorem dX9_image_12 : decode cX9_image 12 = .ok (.iconst 1, 1) := by decide +kernel
theorem dX9_image_13 : decode cX9_image 13 = .ok (.putfield 38, 3) := by decide +kernel
theorem dX9_image_16 : decode cX9_image 16 = .ok (.aload_n 0, 1) := by decide +kernel
theorem dX9_image_17 : decode cX9_image 17 = .ok (.getfield 31, 3) := by decide +kernel
theorem dX9_image_20 : decode cX9_image 20 = .ok (.getfield 76, 3) := by decide +kernel
theorem dX9_image_23 : decode cX9_image 23 = .ok (.ireturn, 1) := by decide +kernel
theorem dX9_image_4 : decode cX9_image 4 = .ok (.aload_n 0, 1) := by decide +kernel
theorem dX9_image_5 : decode cX9_image 5 = .ok (.getfield 31, 3) := by decide +kernel
theorem dX9_image_8 : decode cX9_image 8 = .ok (.invokevirtual 285, 3) := by decide +kernel
theorem dX9_taken_0 : decode cX9_taken 0 = .ok (.iload_n 2, 1) := by decide +kernel
theorem dX9_taken_1 : decode cX9_taken 1 = .ok (.iconst 0, 1) := by decide +kernel
theorem dX9_taken_10 : decode cX9_taken 10 = .ok (.bipush (-2), 2) := by decide +kernel
theorem dX9_taken_12 : decode cX9_taken 12 = .ok (.ireturn, 1) := by decide +kernel
theorem dX9_taken_13 : decode cX9_taken 13 = .ok (.aload_n 0, 1) := by decide +kernel
theorem dX9_taken_14 : decode cX9_taken 14 = .ok (.getfield 31, 3) := by decide +kernel
theorem dX9_taken_17 : decode cX9_taken 17 = .ok (.iload_n 1, 1) := by decide +kernel
theorem dX9_taken_18 : decode cX9_taken 18 = .ok (.invokevirtual 92, 3) := by decide +kernel
theorem dX9_taken_2 : decode cX9_taken 2 = .ok (.bipush 6, 2) := by decide +kernel
theorem dX9_taken_21 : decode cX9_taken 21 = .ok (.ifCond .ne 6, 3) := by decide +kernel
theorem dX9_taken_24 : decode cX9_taken 24 = .ok (.bipush (-11), 2) := by decide +kernel
theorem dX9_taken_26 : decode cX9_taken 26 = .ok (.ireturn, 1) := by decide +kernel
theorem dX9_taken_4 : decode cX9_taken 4 = .ok (.invokestatic 68, 3) := by decide +kernel
theorem dX9_taken_7 : decode cX9_taken 7 = .ok (.ifCond .ne 6, 3) := by decide +kernel
theorem dX9_trace_0 : decode cX9_trace 0 = .ok (.iload_n 1, 1) := by decide +kernel
theorem dX9_trace_1 : decode cX9_trace 1 = .ok (.ifCond .lt 20, 3) := by decide +kernel
theorem dX9_trace_12 : decode cX9_trace 12 = .ok (.if_icmp .ge 9, 3) := by decide +kernel
theorem dX9_trace_21 : decode cX9_trace 21 = .ok (.iconst (-1), 1) := by decide +kernel
theorem dX9_trace_22 : decode cX9_trace 22 = .ok (.ireturn, 1) := by decide +kernel
theorem dX9_trace_4 : decode cX9_trace 4 = .ok (.iload_n 1, 1) := by decide +kernel
theorem dX9_trace_5 : decode cX9_trace 5 = .ok (.aload_n 0, 1) := by decide +kernel
theorem dX9_trace_6 : decode cX9_trace 6 = .ok (.getfield 54, 3) := by decide +kernel
theorem dX9_trace_9 : decode cX9_trace 9 = .ok (.getfield 288, 3) := by decide +kernel
theorem dX9_undo_0 : decode cX9_undo 0 = .ok (.aload_n 0, 1) := by decide +kernel
theorem dX9_undo_1 : decode cX9_undo 1 = .ok (.getfield 38, 3) := by decide +kernel
theorem dX9_undo_4 : decode cX9_undo 4 = .ok (.ifCond .ne 6, 3) := by decide +kernel
theorem dX9_undo_7 : decode cX9_undo 7 = .ok (.bipush (-3), 2) := by decide +kernel
theorem dX9_undo_9 : decode cX9_undo 9 = .ok (.ireturn, 1) := by decide +kernel
set_option maxHeartbeats 8000000 in
set_option maxRecDepth 100000 in
theorem zc_X7_becomeAs_0 (l : Launch) (D : va_G) (y : Nat → ClassId) (a0 : Nat) (a1 : Nat) (w2 : Value) (a3 : Nat) (a4 : Nat) (a5 : Nat) (a6 : Nat) (w7 : Value) (a8 : Nat) (a9 : Nat) (a10 : Nat) (a11 : Nat) (w12 : Value) (w13 : Value) (w14 : Value) (w15 : Value) (w16 : Value) (w17 : Value) (w18 : Value) (w19 : Value) (w20 : Value) (w21 : Value) (w22 : Value) (w23 : Value) : zM l D y yX7_becomeAs (Cond.code yX7_becomeAs cX7_becomeAs 3 none :: zT) { frames := 2, cells := 0, slots := 0, locals := 42 } [.ref a0, .ref a1] [(a0, .inr (6, [w2, .int 0, .int 20, .int 0, .int 0, .int 0, .int 0, .int 0, .ref a3, .ref a4, .ref a5, .ref a6])), (a1, .inr (6, [w7, .int 0, .int 20, .int 0, .int 0, .int 0, .int 0, .int 0, .ref a8, .ref a9, .ref a10, .ref a11])), (a4, .inr (5, [.int 0, w12, w13])), (a5, .inr (5, [.int 0, w14, w15])), (a6, .inr (5, [.int 0, w16, w17])), (a9, .inr (5, [.int 0, w18, w19])), (a10, .inr (5, [.int 0, w20, w21])), (a11, .inr (5, [.int 0, w22, w23]))] (zQv (S := Unit) D (fun _ => True) (fun _ => [(a0, .inr (6, [w2, .int 0, .int 20, .int 0, .int 0, .int 0, .int 0, .int 0, .ref a8, .ref a4, .ref a5, .ref a6])), (a1, .inr (6, [w7, .int 0, .int 20, .int 0, .int 0, .int 0, .int 0, .int 0, .ref a8, .ref a9, .ref a10, .ref a11])), (a4, .inr (5, [.int 0, w12, w13])), (a5, .inr (5, [.int 0, w14, w15])), (a6, .inr (5, [.int 0, w16, w17])), (a9, .inr (5, [.int 0, w18, w19])), (a10, .inr (5, [.int 0, w20, w21])), (a11, .inr (5, [.int 0, w22, w23]))])) := by
  refine zent (cc := cX7_becomeAs) (maxL := 3) (ret := none) (by decide) (Nat.le_of_ble_eq_true rfl) ?_
  intro p e s m below meth c A H locs ls hx hb hml hr ht hown hlocks hin hA hK hE hS hW hl
  have hown : s.vm.findClass RX7 = some m.cls := hown
  have hW : zPD D A [(a0, .inr (6, [w2, .int 0, .int 20, .int 0, .int 0, .int 0, .int 0, .int 0, .ref a3, .ref a4, .ref a5, .ref a6])), (a1, .inr (6, [w7, .int 0, .int 20, .int 0, .int 0, .int 0, .int 0, .int 0, .ref a8, .ref a9, .ref a10, .ref a11])), (a4, .inr (5, [.int 0, w12, w13])), (a5, .inr (5, [.int 0, w14, w15])), (a6, .inr (5, [.int 0, w16, w17])), (a9, .inr (5, [.int 0, w18, w19])), (a10, .inr (5, [.int 0, w20, w21])), (a11, .inr (5, [.int 0, w22, w23]))] H := hW
  have hl : lv_has ls 3 [(0, .ref a0), (1, .ref a1)] := hl
  refine lv_aload_n hx hb dX7_becomeAs_0 rfl (lv_at hl 0 rfl) ?_
  refine lv_aload_n hx hb dX7_becomeAs_1 rfl (lv_at hl 1 rfl) ?_
  refine zget hx hb ht inlX7 hown hK hW 1 rfl rfl 1 (by decide) zm_67 rfl dX7_becomeAs_2 ?_
  refine zput (ws' := [(a0, .inr (6, [w2, .int 0, .int 20, .int 0, .int 0, .int 0, .int 0, .int 0, .ref a3, .ref a4, .ref a5, .ref a6])), (a1, .inr (6, [w7, .int 0, .int 20, .int 0, .int 0, .int 0, .int 0, .int 0, .ref a8, .ref a9, .ref a10, .ref a11])), (a4, .inr (5, [.int 0, w12, w13])), (a5, .inr (5, [.int 0, w14, w15])), (a6, .inr (5, [.int 0, w16, w17])), (a9, .inr (5, [.int 0, w18, w19])), (a10, .inr (5, [.int 0, w20, w21])), (a11, .inr (5, [.int 0, w22, w23]))]) hx hb ht inlX7 tyX7 tyX7_ok nmX7 hown hK hS hW 0 rfl rfl 1 (by decide) zm_67 rfl rfl rfl (Nat.le_of_ble_eq_true rfl) rfl dX7_becomeAs_5 (fun H locs hW hS => ?_)
  refine lv_iconst (v := 0) hx hb dX7_becomeAs_8 (by decide) ?_
  refine lv_istore_n (lv' := [(2, .int 0), (0, .ref a0), (1, .ref a1)]) hx hb dX7_becomeAs_9 rfl hl (by decide) rfl (fun ls hl => ?_)
  refine lv_iload_n hx hb dX7_becomeAs_10 rfl (lv_at hl 0 rfl) ?_
  refine lv_aload_n hx hb dX7_becomeAs_11 rfl (lv_at hl 1 rfl) ?_
  refine zget hx hb ht inlX7 hown hK hW 0 rfl rfl 1 (by decide) zm_67 rfl dX7_becomeAs_12 ?_
  refine lv_icmp_ge (tgt := 39) hx hb dX7_becomeAs_15 (by decide) (fun c1_ => ?_) (fun c1_ => absurd (by decide) c1_)
  refine lv_aload_n hx hb dX7_becomeAs_39 rfl (lv_at hl 1 rfl) ?_
  refine lv_aload_n hx hb dX7_becomeAs_40 rfl (lv_at hl 2 rfl) ?_
  refine zget hx hb ht inlX7 hown hK hW 1 rfl rfl 2 (by decide) zm_68 rfl dX7_becomeAs_41 ?_
  refine zput (ws' := [(a0, .inr (6, [w2, .int 0, .int 20, .int 0, .int 0, .int 0, .int 0, .int 0, .ref a3, .ref a4, .ref a5, .ref a6])), (a1, .inr (6, [w7, .int 0, .int 20, .int 0, .int 0, .int 0, .int 0, .int 0, .ref a8, .ref a9, .ref a10, .ref a11])), (a4, .inr (5, [.int 0, w12, w13])), (a5, .inr (5, [.int 0, w14, w15])), (a6, .inr (5, [.int 0, w16, w17])), (a9, .inr (5, [.int 0, w18, w19])), (a10, .inr (5, [.int 0, w20, w21])), (a11, .inr (5, [.int 0, w22, w23]))]) hx hb ht inlX7 tyX7 tyX7_ok nmX7 hown hK hS hW 0 rfl rfl 2 (by decide) zm_68 rfl rfl rfl (Nat.le_of_ble_eq_true rfl) rfl dX7_becomeAs_44 (fun H locs hW hS => ?_)
  refine lv_aload_n hx hb dX7_becomeAs_47 rfl (lv_at hl 1 rfl) ?_
  refine lv_aload_n hx hb dX7_becomeAs_48 rfl (lv_at hl 2 rfl) ?_
  refine zget hx hb ht inlX7 hown hK hW 1 rfl rfl 3 (by decide) zm_69 rfl dX7_becomeAs_49 ?_
  refine zput (ws' := [(a0, .inr (6, [w2, .int 0, .int 20, .int 0, .int 0, .int 0, .int 0, .int 0, .ref a3, .ref a4, .ref a5, .ref a6])), (a1, .inr (6, [w7, .int 0, .int 20, .int 0, .int 0, .int 0, .int 0, .int 0, .ref a8, .ref a9, .ref a10, .ref a11])), (a4, .inr (5, [.int 0, w12, w13])), (a5, .inr (5, [.int 0, w14, w15])), (a6, .inr (5, [.int 0, w16, w17])), (a9, .inr (5, [.int 0, w18, w19])), (a10, .inr (5, [.int 0, w20, w21])), (a11, .inr (5, [.int 0, w22, w23]))]) hx hb ht inlX7 tyX7 tyX7_ok nmX7 hown hK hS hW 0 rfl rfl 3 (by decide) zm_69 rfl rfl rfl (Nat.le_of_ble_eq_true rfl) rfl dX7_becomeAs_52 (fun H locs hW hS => ?_)
  refine lv_aload_n hx hb dX7_becomeAs_55 rfl (lv_at hl 1 rfl) ?_
  refine lv_aload_n hx hb dX7_becomeAs_56 rfl (lv_at hl 2 rfl) ?_
  refine zget hx hb ht inlX7 hown hK hW 1 rfl rfl 4 (by decide) zm_70 rfl dX7_becomeAs_57 ?_
  refine zput (ws' := [(a0, .inr (6, [w2, .int 0, .int 20, .int 0, .int 0, .int 0, .int 0, .int 0, .ref a3, .ref a4, .ref a5, .ref a6])), (a1, .inr (6, [w7, .int 0, .int 20, .int 0, .int 0, .int 0, .int 0, .int 0, .ref a8, .ref a9, .ref a10, .ref a11])), (a4, .inr (5, [.int 0, w12, w13])), (a5, .inr (5, [.int 0, w14, w15])), (a6, .inr (5, [.int 0, w16, w17])), (a9, .inr (5, [.int 0, w18, w19])), (a10, .inr (5, [.int 0, w20, w21])), (a11, .inr (5, [.int 0, w22, w23]))]) hx hb ht inlX7 tyX7 tyX7_ok nmX7 hown hK hS hW 0 rfl rfl 4 (by decide) zm_70 rfl rfl rfl (Nat.le_of_ble_eq_true rfl) rfl dX7_becomeAs_60 (fun H locs hW hS => ?_)
  refine lv_aload_n hx hb dX7_becomeAs_63 rfl (lv_at hl 1 rfl) ?_
  refine lv_aload_n hx hb dX7_becomeAs_64 rfl (lv_at hl 2 rfl) ?_
  refine zget hx hb ht inlX7 hown hK hW 1 rfl rfl 5 (by decide) zm_71 rfl dX7_becomeAs_65 ?_
  refine zput (ws' := [(a0, .inr (6, [w2, .int 0, .int 20, .int 0, .int 0, .int 0, .int 0, .int 0, .ref a3, .ref a4, .ref a5, .ref a6])), (a1, .inr (6, [w7, .int 0, .int 20, .int 0, .int 0, .int 0, .int 0, .int 0, .ref a8, .ref a9, .ref a10, .ref a11])), (a4, .inr (5, [.int 0, w12, w13])), (a5, .inr (5, [.int 0, w14, w15])), (a6, .inr (5, [.int 0, w16, w17])), (a9, .inr (5, [.int 0, w18, w19])), (a10, .inr (5, [.int 0, w20, w21])), (a11, .inr (5, [.int 0, w22, w23]))]) hx hb ht inlX7 tyX7 tyX7_ok nmX7 hown hK hS hW 0 rfl rfl 5 (by decide) zm_71 rfl rfl rfl (Nat.le_of_ble_eq_true rfl) rfl dX7_becomeAs_68 (fun H locs hW hS => ?_)
  refine lv_aload_n hx hb dX7_becomeAs_71 rfl (lv_at hl 1 rfl) ?_
  refine lv_aload_n hx hb dX7_becomeAs_72 rfl (lv_at hl 2 rfl) ?_
  refine zget hx hb ht inlX7 hown hK hW 1 rfl rfl 6 (by decide) zm_72 rfl dX7_becomeAs_73 ?_
  refine zput (ws' := [(a0, .inr (6, [w2, .int 0, .int 20, .int 0, .int 0, .int 0, .int 0, .int 0, .ref a3, .ref a4, .ref a5, .ref a6])), (a1, .inr (6, [w7, .int 0, .int 20, .int 0, .int 0, .int 0, .int 0, .int 0, .ref a8, .ref a9, .ref a10, .ref a11])), (a4, .inr (5, [.int 0, w12, w13])), (a5, .inr (5, [.int 0, w14, w15])), (a6, .inr (5, [.int 0, w16, w17])), (a9, .inr (5, [.int 0, w18, w19])), (a10, .inr (5, [.int 0, w20, w21])), (a11, .inr (5, [.int 0, w22, w23]))]) hx hb ht inlX7 tyX7 tyX7_ok nmX7 hown hK hS hW 0 rfl rfl 6 (by decide) zm_72 rfl rfl rfl (Nat.le_of_ble_eq_true rfl) rfl dX7_becomeAs_76 (fun H locs hW hS => ?_)
  refine lv_aload_n hx hb dX7_becomeAs_79 rfl (lv_at hl 1 rfl) ?_
  refine lv_aload_n hx hb dX7_becomeAs_80 rfl (lv_at hl 2 rfl) ?_
  refine zget hx hb ht inlX7 hown hK hW 1 rfl rfl 7 (by decide) zm_73 rfl dX7_becomeAs_81 ?_
  refine zput (ws' := [(a0, .inr (6, [w2, .int 0, .int 20, .int 0, .int 0, .int 0, .int 0, .int 0, .ref a3, .ref a4, .ref a5, .ref a6])), (a1, .inr (6, [w7, .int 0, .int 20, .int 0, .int 0, .int 0, .int 0, .int 0, .ref a8, .ref a9, .ref a10, .ref a11])), (a4, .inr (5, [.int 0, w12, w13])), (a5, .inr (5, [.int 0, w14, w15])), (a6, .inr (5, [.int 0, w16, w17])), (a9, .inr (5, [.int 0, w18, w19])), (a10, .inr (5, [.int 0, w20, w21])), (a11, .inr (5, [.int 0, w22, w23]))]) hx hb ht inlX7 tyX7 tyX7_ok nmX7 hown hK hS hW 0 rfl rfl 7 (by decide) zm_73 rfl rfl rfl (Nat.le_of_ble_eq_true rfl) rfl dX7_becomeAs_84 (fun H locs hW hS => ?_)
  refine lv_aload_n hx hb dX7_becomeAs_87 rfl (lv_at hl 1 rfl) ?_
  refine lv_aload_n hx hb dX7_becomeAs_88 rfl (lv_at hl 2 rfl) ?_
  refine zget hx hb ht inlX7 hown hK hW 1 rfl rfl 8 (by decide) zm_75 rfl dX7_becomeAs_89 ?_
  refine zput (ws' := [(a0, .inr (6, [w2, .int 0, .int 20, .int 0, .int 0, .int 0, .int 0, .int 0, .ref a8, .ref a4, .ref a5, .ref a6])), (a1, .inr (6, [w7, .int 0, .int 20, .int 0, .int 0, .int 0, .int 0, .int 0, .ref a8, .ref a9, .ref a10, .ref a11])), (a4, .inr (5, [.int 0, w12, w13])), (a5, .inr (5, [.int 0, w14, w15])), (a6, .inr (5, [.int 0, w16, w17])), (a9, .inr (5, [.int 0, w18, w19])), (a10, .inr (5, [.int 0, w20, w21])), (a11, .inr (5, [.int 0, w22, w23]))]) hx hb ht inlX7 tyX7 tyX7_ok nmX7 hown hK hS hW 0 rfl rfl 8 (by decide) zm_75 rfl rfl rfl (Nat.le_of_ble_eq_true rfl) rfl dX7_becomeAs_92 (fun H locs hW hS => ?_)
  refine lv_aload_n hx hb dX7_becomeAs_95 rfl (lv_at hl 1 rfl) ?_
  refine zget hx hb ht inlX7 hown hK hW 0 rfl rfl 9 (by decide) zm_79 rfl dX7_becomeAs_96 ?_
  refine lv_aload_n hx hb dX7_becomeAs_99 rfl (lv_at hl 2 rfl) ?_
  refine zget hx hb ht inlX7 hown hK hW 1 rfl rfl 9 (by decide) zm_79 rfl dX7_becomeAs_100 ?_
  refine zgo_v (wr := [(a0, .inr (6, [w2, .int 0, .int 20, .int 0, .int 0, .int 0, .int 0, .int 0, .ref a8, .ref a4, .ref a5, .ref a6])), (a1, .inr (6, [w7, .int 0, .int 20, .int 0, .int 0, .int 0, .int 0, .int 0, .ref a8, .ref a9, .ref a10, .ref a11])), (a5, .inr (5, [.int 0, w14, w15])), (a6, .inr (5, [.int 0, w16, w17])), (a10, .inr (5, [.int 0, w20, w21])), (a11, .inr (5, [.int 0, w22, w23]))]) (zrunV (As := [.ref a9]) (rest := []) ⟨hx, hb, hml, hown, ht⟩ (zc_X6_becomeAs_0 l D y a4 a9 w12 w13 w18 w19) (cwV 1 ht (zgV zm_1118 zm_886 zm_887 zm_78 zm_888) rfl rfl rfl (by decide +kernel) ⟨(Nat.le_of_ble_eq_true rfl), (Nat.le_of_ble_eq_true rfl)⟩) hK hE hS hA hW [2, 5] (by decide) rfl 0 rfl rfl rfl rfl hl.1 rfl (Nat.le_of_ble_eq_true rfl) dX7_becomeAs_103 (Nat.le_of_ble_eq_true rfl) (Nat.le_of_ble_eq_true rfl)) hS hA hW [2, 5] [0, 1, 3, 4, 6, 7] rfl rfl (by decide) (by decide) (fun u H locs hw hW hS => ?_)
  have hW : zPD D A [(a0, .inr (6, [w2, .int 0, .int 20, .int 0, .int 0, .int 0, .int 0, .int 0, .ref a8, .ref a4, .ref a5, .ref a6])), (a1, .inr (6, [w7, .int 0, .int 20, .int 0, .int 0, .int 0, .int 0, .int 0, .ref a8, .ref a9, .ref a10, .ref a11])), (a5, .inr (5, [.int 0, w14, w15])), (a6, .inr (5, [.int 0, w16, w17])), (a10, .inr (5, [.int 0, w20, w21])), (a11, .inr (5, [.int 0, w22, w23])), (a4, .inr (5, [.int 0, w12, w13])), (a9, .inr (5, [.int 0, w18, w19]))] H := hW
  refine lv_aload_n hx hb dX7_becomeAs_106 rfl (lv_at hl 1 rfl) ?_
  refine zget hx hb ht inlX7 hown hK hW 0 rfl rfl 10 (by decide) zm_80 rfl dX7_becomeAs_107 ?_
  refine lv_aload_n hx hb dX7_becomeAs_110 rfl (lv_at hl 2 rfl) ?_
  refine zget hx hb ht inlX7 hown hK hW 1 rfl rfl 10 (by decide) zm_80 rfl dX7_becomeAs_111 ?_
  refine zgo_v (wr := [(a0, .inr (6, [w2, .int 0, .int 20, .int 0, .int 0, .int 0, .int 0, .int 0, .ref a8, .ref a4, .ref a5, .ref a6])), (a1, .inr (6, [w7, .int 0, .int 20, .int 0, .int 0, .int 0, .int 0, .int 0, .ref a8, .ref a9, .ref a10, .ref a11])), (a6, .inr (5, [.int 0, w16, w17])), (a11, .inr (5, [.int 0, w22, w23])), (a4, .inr (5, [.int 0, w12, w13])), (a9, .inr (5, [.int 0, w18, w19]))]) (zrunV (As := [.ref a10]) (rest := []) ⟨hx, hb, hml, hown, ht⟩ (zc_X6_becomeAs_0 l D y a5 a10 w14 w15 w20 w21) (cwV 1 ht (zgV zm_1118 zm_886 zm_887 zm_78 zm_888) rfl rfl rfl (by decide +kernel) ⟨(Nat.le_of_ble_eq_true rfl), (Nat.le_of_ble_eq_true rfl)⟩) hK hE hS hA hW [2, 4] (by decide) rfl 0 rfl rfl rfl rfl hl.1 rfl (Nat.le_of_ble_eq_true rfl) dX7_becomeAs_114 (Nat.le_of_ble_eq_true rfl) (Nat.le_of_ble_eq_true rfl)) hS hA hW [2, 4] [0, 1, 3, 5, 6, 7] rfl rfl (by decide) (by decide) (fun u H locs hw hW hS => ?_)
  have hW : zPD D A [(a0, .inr (6, [w2, .int 0, .int 20, .int 0, .int 0, .int 0, .int 0, .int 0, .ref a8, .ref a4, .ref a5, .ref a6])), (a1, .inr (6, [w7, .int 0, .int 20, .int 0, .int 0, .int 0, .int 0, .int 0, .ref a8, .ref a9, .ref a10, .ref a11])), (a6, .inr (5, [.int 0, w16, w17])), (a11, .inr (5, [.int 0, w22, w23])), (a4, .inr (5, [.int 0, w12, w13])), (a9, .inr (5, [.int 0, w18, w19])), (a5, .inr (5, [.int 0, w14, w15])), (a10, .inr (5, [.int 0, w20, w21]))] H := hW
  refine lv_aload_n hx hb dX7_becomeAs_117 rfl (lv_at hl 1 rfl) ?_
  refine zget hx hb ht inlX7 hown hK hW 0 rfl rfl 11 (by decide) zm_81 rfl dX7_becomeAs_118 ?_
  refine lv_aload_n hx hb dX7_becomeAs_121 rfl (lv_at hl 2 rfl) ?_
  refine zget hx hb ht inlX7 hown hK hW 1 rfl rfl 11 (by decide) zm_81 rfl dX7_becomeAs_122 ?_
  refine zgo_v (wr := [(a0, .inr (6, [w2, .int 0, .int 20, .int 0, .int 0, .int 0, .int 0, .int 0, .ref a8, .ref a4, .ref a5, .ref a6])), (a1, .inr (6, [w7, .int 0, .int 20, .int 0, .int 0, .int 0, .int 0, .int 0, .ref a8, .ref a9, .ref a10, .ref a11])), (a4, .inr (5, [.int 0, w12, w13])), (a9, .inr (5, [.int 0, w18, w19])), (a5, .inr (5, [.int 0, w14, w15])), (a10, .inr (5, [.int 0, w20, w21]))]) (zrunV (As := [.ref a11]) (rest := []) ⟨hx, hb, hml, hown, ht⟩ (zc_X6_becomeAs_0 l D y a6 a11 w16 w17 w22 w23) (cwV 1 ht (zgV zm_1118 zm_886 zm_887 zm_78 zm_888) rfl rfl rfl (by decide +kernel) ⟨(Nat.le_of_ble_eq_true rfl), (Nat.le_of_ble_eq_true rfl)⟩) hK hE hS hA hW [2, 3] (by decide) rfl 0 rfl rfl rfl rfl hl.1 rfl (Nat.le_of_ble_eq_true rfl) dX7_becomeAs_125 (Nat.le_of_ble_eq_true rfl) (Nat.le_of_ble_eq_true rfl)) hS hA hW [2, 3] [0, 1, 4, 5, 6, 7] rfl rfl (by decide) (by decide) (fun u H locs hw hW hS => ?_)
  have hW : zPD D A [(a0, .inr (6, [w2, .int 0, .int 20, .int 0, .int 0, .int 0, .int 0, .int 0, .ref a8, .ref a4, .ref a5, .ref a6])), (a1, .inr (6, [w7, .int 0, .int 20, .int 0, .int 0, .int 0, .int 0, .int 0, .ref a8, .ref a9, .ref a10, .ref a11])), (a4, .inr (5, [.int 0, w12, w13])), (a9, .inr (5, [.int 0, w18, w19])), (a5, .inr (5, [.int 0, w14, w15])), (a10, .inr (5, [.int 0, w20, w21])), (a6, .inr (5, [.int 0, w16, w17])), (a11, .inr (5, [.int 0, w22, w23]))] H := hW
  exact zret_v hx hb hr hlocks hS () trivial (hW.sub [0, 1, 2, 4, 6, 3, 5, 7] (by decide) rfl) (Nat.le_of_ble_eq_true rfl) (Nat.le_of_ble_eq_true rfl) dX7_becomeAs_128
set_option maxHeartbeats 8000000 in
set_option maxRecDepth 100000 in
theorem zc_X9_image_0 (l : Launch) (D : va_G) (y : Nat → ClassId) (a0 : Nat) (w1 : Value) (w2 : Value) (w3 : Value) (a4 : Nat) (a5 : Nat) (w6 : Value) (w7 : Value) (w8 : Value) (w9 : Value) (a10 : Nat) (a11 : Nat) (a12 : Nat) (a13 : Nat) (w14 : Value) (a15 : Nat) (a16 : Nat) (a17 : Nat) (a18 : Nat) (w19 : Value) (w20 : Value) (w21 : Value) (w22 : Value) (w23 : Value) (w24 : Value) (w25 : Value) (w26 : Value) (w27 : Value) (w28 : Value) (w29 : Value) (w30 : Value) : zM l D y yX9_image (Cond.code yX9_image cX9_image 1 (some .int) :: zT) { frames := 3, cells := 0, slots := 0, locals := 64 } [.ref a0] [(a0, .inr (8, [w1, w2, w3, .ref a4, .ref a5, .int 0, w6, w7, w8])), (a4, .inr (6, [w9, .int 0, .int 20, .int 0, .int 0, .int 0, .int 0, .int 0, .ref a10, .ref a11, .ref a12, .ref a13])), (a5, .inr (6, [w14, .int 0, .int 20, .int 0, .int 0, .int 0, .int 0, .int 0, .ref a15, .ref a16, .ref a17, .ref a18])), (a11, .inr (5, [.int 0, w19, w20])), (a12, .inr (5, [.int 0, w21, w22])), (a13, .inr (5, [.int 0, w23, w24])), (a16, .inr (5, [.int 0, w25, w26])), (a17, .inr (5, [.int 0, w27, w28])), (a18, .inr (5, [.int 0, w29, w30]))] (zQi (S := Unit) D (fun r_ _ => r_ = 0) (fun _ => [])) := by
  refine zent (cc := cX9_image) (maxL := 1) (ret := (some .int)) (by decide) (Nat.le_of_ble_eq_true rfl) ?_
  intro p e s m below meth c A H locs ls hx hb hml hr ht hown hlocks hin hA hK hE hS hW hl
  have hown : s.vm.findClass RX9 = some m.cls := hown
  have hW : zPD D A [(a0, .inr (8, [w1, w2, w3, .ref a4, .ref a5, .int 0, w6, w7, w8])), (a4, .inr (6, [w9, .int 0, .int 20, .int 0, .int 0, .int 0, .int 0, .int 0, .ref a10, .ref a11, .ref a12, .ref a13])), (a5, .inr (6, [w14, .int 0, .int 20, .int 0, .int 0, .int 0, .int 0, .int 0, .ref a15, .ref a16, .ref a17, .ref a18])), (a11, .inr (5, [.int 0, w19, w20])), (a12, .inr (5, [.int 0, w21, w22])), (a13, .inr (5, [.int 0, w23, w24])), (a16, .inr (5, [.int 0, w25, w26])), (a17, .inr (5, [.int 0, w27, w28])), (a18, .inr (5, [.int 0, w29, w30]))] H := hW
  have hl : lv_has ls 1 [(0, .ref a0)] := hl
  refine lv_aload_n hx hb dX9_image_0 rfl (lv_at hl 0 rfl) ?_
  refine zget hx hb ht inlX9 hown hK hW 0 rfl rfl 4 (by decide) zm_24 rfl dX9_image_1 ?_
  refine lv_aload_n hx hb dX9_image_4 rfl (lv_at hl 0 rfl) ?_
  refine zget hx hb ht inlX9 hown hK hW 0 rfl rfl 3 (by decide) zm_23 rfl dX9_image_5 ?_
  refine zgo_v (wr := [(a0, .inr (8, [w1, w2, w3, .ref a4, .ref a5, .int 0, w6, w7, w8]))]) (zrunV (As := [.ref a4]) (rest := []) ⟨hx, hb, hml, hown, ht⟩ (zc_X7_becomeAs_0 l D y a5 a4 w14 a15 a16 a17 a18 w9 a10 a11 a12 a13 w25 w26 w27 w28 w29 w30 w19 w20 w21 w22 w23 w24) (cwV 1 ht (zgV zm_1105 zm_1106 zm_1107 zm_22 zm_1108) rfl rfl rfl (by decide +kernel) ⟨(Nat.le_of_ble_eq_true rfl), (Nat.le_of_ble_eq_true rfl)⟩) hK hE hS hA hW [2, 1, 6, 7, 8, 3, 4, 5] (by decide) rfl 0 rfl rfl rfl rfl hl.1 rfl (Nat.le_of_ble_eq_true rfl) dX9_image_8 (Nat.le_of_ble_eq_true rfl) (Nat.le_of_ble_eq_true rfl)) hS hA hW [2, 1, 6, 7, 8, 3, 4, 5] [0] rfl rfl (by decide) (by decide) (fun u H locs hw hW hS => ?_)
  have hW : zPD D A [(a0, .inr (8, [w1, w2, w3, .ref a4, .ref a5, .int 0, w6, w7, w8])), (a5, .inr (6, [w14, .int 0, .int 20, .int 0, .int 0, .int 0, .int 0, .int 0, .ref a10, .ref a16, .ref a17, .ref a18])), (a4, .inr (6, [w9, .int 0, .int 20, .int 0, .int 0, .int 0, .int 0, .int 0, .ref a10, .ref a11, .ref a12, .ref a13])), (a16, .inr (5, [.int 0, w25, w26])), (a17, .inr (5, [.int 0, w27, w28])), (a18, .inr (5, [.int 0, w29, w30])), (a11, .inr (5, [.int 0, w19, w20])), (a12, .inr (5, [.int 0, w21, w22])), (a13, .inr (5, [.int 0, w23, w24]))] H := hW
  refine lv_aload_n hx hb dX9_image_11 rfl (lv_at hl 0 rfl) ?_
  refine lv_iconst (v := 1) hx hb dX9_image_12 (by decide) ?_
  refine zput (ws' := [(a0, .inr (8, [w1, w2, w3, .ref a4, .ref a5, .int 1, w6, w7, w8])), (a5, .inr (6, [w14, .int 0, .int 20, .int 0, .int 0, .int 0, .int 0, .int 0, .ref a10, .ref a16, .ref a17, .ref a18])), (a4, .inr (6, [w9, .int 0, .int 20, .int 0, .int 0, .int 0, .int 0, .int 0, .ref a10, .ref a11, .ref a12, .ref a13])), (a16, .inr (5, [.int 0, w25, w26])), (a17, .inr (5, [.int 0, w27, w28])), (a18, .inr (5, [.int 0, w29, w30])), (a11, .inr (5, [.int 0, w19, w20])), (a12, .inr (5, [.int 0, w21, w22])), (a13, .inr (5, [.int 0, w23, w24]))]) hx hb ht inlX9 tyX9 tyX9_ok nmX9 hown hK hS hW 0 rfl rfl 5 (by decide) zm_25 rfl rfl rfl (Nat.le_of_ble_eq_true rfl) rfl dX9_image_13 (fun H locs hW hS => ?_)
  refine lv_aload_n hx hb dX9_image_16 rfl (lv_at hl 0 rfl) ?_
  refine zget hx hb ht inlX9 hown hK hW 0 rfl rfl 3 (by decide) zm_23 rfl dX9_image_17 ?_
  refine zget hx hb ht inlX7 hown hK hW 2 rfl rfl 1 (by decide) zm_220 rfl dX9_image_20 ?_
  exact zret_i (v := 0) hx hb hr hlocks hS () rfl (hW.sub [] (by decide) rfl) (Nat.le_of_ble_eq_true rfl) (Nat.le_of_ble_eq_true rfl) dX9_image_23
set_option maxHeartbeats 8000000 in
set_option maxRecDepth 100000 in
theorem zc_X10_image_0 (l : Launch) (D : va_G) (y : Nat → ClassId) (a0 : Nat) (a1 : Nat) (a2 : Nat) (a3 : Nat) (a4 : Nat) (a5 : Nat) (a6 : Nat) (a7 : Nat) (w8 : Value) (w9 : Value) (w10 : Value) (w11 : Value) (w12 : Value) (w13 : Value) (w14 : Value) (w15 : Value) (w16 : Value) (w17 : Value) (w18 : Value) (w19 : Value) (w20 : Value) (w21 : Value) (w22 : Value) (w23 : Value) (w24 : Value) (w25 : Value) (w26 : Value) (w27 : Value) (w28 : Value) (w29 : Value) (a30 : Nat) (w31 : Value) (a32 : Nat) (a33 : Nat) (a34 : Nat) (a35 : Nat) (a36 : Nat) (a37 : Nat) (a38 : Nat) (a39 : Nat) (a40 : Nat) (a41 : Nat) (a42 : Nat) (a43 : Nat) (a44 : Nat) (a45 : Nat) (a46 : Nat) (a47 : Nat) (w48 : Value) (w49 : Value) (w50 : Value) (w51 : Value) (w52 : Value) (w53 : Value) : zM l D y yX10_image (Cond.code yX10_image cX10_image 2 (some .int) :: zT) { frames := 0, cells := 0, slots := 0, locals := 0 } [.ref a0] [(a0, .inr (9, [.int 0, .int 0, .int 0, .int 20, .int 0, .int 0, .int 0, .ref a1, .ref a2, .ref a3, .ref a4, .ref a5, .ref a6, .ref a7, w8, .int (-1), w9, w10, w11, w12, w13, w14, w15, w16, w17, w18, w19, w20, w21, w22, w23, w24, w25, w26, w27, w28, w29, .int 0, .ref a30, w31, .int 0, .ref a32, .ref a33, .int 0, .ref a34, .ref a35, .int 0, .int (-1), .int 0, .int 0, .int 0, .int 20, .int 0, .int 0, .int 0, .int 0, .int 0, .int 0, .ref a36, .ref a37, .ref a38, .ref a39, .ref a40, .ref a41, .ref a42, .ref a43, .ref a44, .ref a45, .ref a46, .ref a47, w48, w49, w50, w51, w52, w53])), (a1, .inl (y 0, 7, .inl (fun _ => 0))), (a2, .inl (y 0, 7, .inl (fun _ => 0))), (a3, .inl (y 0, 7, .inl (fun _ => 0))), (a4, .inl (y 0, 7, .inl (fun _ => 0))), (a5, .inl (y 0, 7, .inl (fun _ => 0))), (a6, .inl (y 0, 28, .inl (fun _ => 0))), (a7, .inl (y 2, 7, .inl (fun _ => 0))), (a30, .inl (y 0, 7, .inl (fun _ => 0))), (a32, .inl (y 0, 6, .inl (fun _ => 0))), (a33, .inl (y 0, 6, .inl (fun _ => 0))), (a34, .inl (y 0, 8, .inl (fun _ => 0))), (a35, .inl (y 0, 8, .inl (fun _ => 0))), (a36, .inl (y 0, 7, .inl (fun _ => 0))), (a37, .inl (y 0, 7, .inl (fun _ => 0))), (a38, .inl (y 0, 7, .inl (fun _ => 0))), (a39, .inl (y 0, 7, .inl (fun _ => 0))), (a40, .inl (y 0, 7, .inl (fun _ => 0))), (a41, .inl (y 0, 28, .inl (fun _ => 0))), (a42, .inl (y 0, 7, .inl (fun _ => 0))), (a43, .inl (y 0, 6, .inl (fun _ => 0))), (a44, .inl (y 0, 6, .inl (fun _ => 0))), (a45, .inl (y 0, 8, .inl (fun _ => 0))), (a46, .inl (y 0, 8, .inl (fun _ => 0))), (a47, .inl (y 2, 7, .inl (fun _ => 0)))] (zQi (S := Unit) D (fun r_ _ => r_ = 0) (fun _ => [])) := by
  refine zent (cc := cX10_image) (maxL := 2) (ret := (some .int)) (by decide) (Nat.le_of_ble_eq_true rfl) ?_
  intro p e s m below meth c A H locs ls hx hb hml hr ht hown hlocks hin hA hK hE hS hW hl
  have hown : s.vm.findClass RX10 = some m.cls := hown
  have hW : zPD D A [(a0, .inr (9, [.int 0, .int 0, .int 0, .int 20, .int 0, .int 0, .int 0, .ref a1, .ref a2, .ref a3, .ref a4, .ref a5, .ref a6, .ref a7, w8, .int (-1), w9, w10, w11, w12, w13, w14, w15, w16, w17, w18, w19, w20, w21, w22, w23, w24, w25, w26, w27, w28, w29, .int 0, .ref a30, w31, .int 0, .ref a32, .ref a33, .int 0, .ref a34, .ref a35, .int 0, .int (-1), .int 0, .int 0, .int 0, .int 20, .int 0, .int 0, .int 0, .int 0, .int 0, .int 0, .ref a36, .ref a37, .ref a38, .ref a39, .ref a40, .ref a41, .ref a42, .ref a43, .ref a44, .ref a45, .ref a46, .ref a47, w48, w49, w50, w51, w52, w53])), (a1, .inl (y 0, 7, .inl (fun _ => 0))), (a2, .inl (y 0, 7, .inl (fun _ => 0))), (a3, .inl (y 0, 7, .inl (fun _ => 0))), (a4, .inl (y 0, 7, .inl (fun _ => 0))), (a5, .inl (y 0, 7, .inl (fun _ => 0))), (a6, .inl (y 0, 28, .inl (fun _ => 0))), (a7, .inl (y 2, 7, .inl (fun _ => 0))), (a30, .inl (y 0, 7, .inl (fun _ => 0))), (a32, .inl (y 0, 6, .inl (fun _ => 0))), (a33, .inl (y 0, 6, .inl (fun _ => 0))), (a34, .inl (y 0, 8, .inl (fun _ => 0))), (a35, .inl (y 0, 8, .inl (fun _ => 0))), (a36, .inl (y 0, 7, .inl (fun _ => 0))), (a37, .inl (y 0, 7, .inl (fun _ => 0))), (a38, .inl (y 0, 7, .inl (fun _ => 0))), (a39, .inl (y 0, 7, .inl (fun _ => 0))), (a40, .inl (y 0, 7, .inl (fun _ => 0))), (a41, .inl (y 0, 28, .inl (fun _ => 0))), (a42, .inl (y 0, 7, .inl (fun _ => 0))), (a43, .inl (y 0, 6, .inl (fun _ => 0))), (a44, .inl (y 0, 6, .inl (fun _ => 0))), (a45, .inl (y 0, 8, .inl (fun _ => 0))), (a46, .inl (y 0, 8, .inl (fun _ => 0))), (a47, .inl (y 2, 7, .inl (fun _ => 0)))] H := hW
  have hl : lv_has ls 2 [(0, .ref a0)] := hl
  refine lv_aload_n hx hb dX10_image_0 rfl (lv_at hl 0 rfl) ?_
  refine lv_iconst (v := 1) hx hb dX10_image_1 (by decide) ?_
  refine zput (ws' := [(a0, .inr (9, [.int 0, .int 0, .int 0, .int 20, .int 0, .int 0, .int 0, .ref a1, .ref a2, .ref a3, .ref a4, .ref a5, .ref a6, .ref a7, w8, .int (-1), w9, w10, w11, w12, w13, w14, w15, w16, w17, w18, w19, w20, w21, w22, w23, w24, w25, w26, w27, w28, w29, .int 0, .ref a30, w31, .int 0, .ref a32, .ref a33, .int 0, .ref a34, .ref a35, .int 1, .int (-1), .int 0, .int 0, .int 0, .int 20, .int 0, .int 0, .int 0, .int 0, .int 0, .int 0, .ref a36, .ref a37, .ref a38, .ref a39, .ref a40, .ref a41, .ref a42, .ref a43, .ref a44, .ref a45, .ref a46, .ref a47, w48, w49, w50, w51, w52, w53])), (a1, .inl (y 0, 7, .inl (fun _ => 0))), (a2, .inl (y 0, 7, .inl (fun _ => 0))), (a3, .inl (y 0, 7, .inl (fun _ => 0))), (a4, .inl (y 0, 7, .inl (fun _ => 0))), (a5, .inl (y 0, 7, .inl (fun _ => 0))), (a6, .inl (y 0, 28, .inl (fun _ => 0))), (a7, .inl (y 2, 7, .inl (fun _ => 0))), (a30, .inl (y 0, 7, .inl (fun _ => 0))), (a32, .inl (y 0, 6, .inl (fun _ => 0))), (a33, .inl (y 0, 6, .inl (fun _ => 0))), (a34, .inl (y 0, 8, .inl (fun _ => 0))), (a35, .inl (y 0, 8, .inl (fun _ => 0))), (a36, .inl (y 0, 7, .inl (fun _ => 0))), (a37, .inl (y 0, 7, .inl (fun _ => 0))), (a38, .inl (y 0, 7, .inl (fun _ => 0))), (a39, .inl (y 0, 7, .inl (fun _ => 0))), (a40, .inl (y 0, 7, .inl (fun _ => 0))), (a41, .inl (y 0, 28, .inl (fun _ => 0))), (a42, .inl (y 0, 7, .inl (fun _ => 0))), (a43, .inl (y 0, 6, .inl (fun _ => 0))), (a44, .inl (y 0, 6, .inl (fun _ => 0))), (a45, .inl (y 0, 8, .inl (fun _ => 0))), (a46, .inl (y 0, 8, .inl (fun _ => 0))), (a47, .inl (y 2, 7, .inl (fun _ => 0)))]) hx hb ht inlX10 tyX10 tyX10_ok nmX10 hown hK hS hW 0 rfl rfl 46 (by decide) zm_186 rfl rfl rfl (Nat.le_of_ble_eq_true rfl) rfl dX10_image_2 (fun H locs hW hS => ?_)
  refine lv_aload_n hx hb dX10_image_5 rfl (lv_at hl 0 rfl) ?_
  refine lv_aload_n hx hb dX10_image_6 rfl (lv_at hl 0 rfl) ?_
  refine zget hx hb ht inlX10 hown hK hW 0 rfl rfl 15 (by decide) zm_155 rfl dX10_image_7 ?_
  refine zput (ws' := [(a0, .inr (9, [.int 0, .int 0, .int 0, .int 20, .int 0, .int 0, .int 0, .ref a1, .ref a2, .ref a3, .ref a4, .ref a5, .ref a6, .ref a7, w8, .int (-1), w9, w10, w11, w12, w13, w14, w15, w16, w17, w18, w19, w20, w21, w22, w23, w24, w25, w26, w27, w28, w29, .int 0, .ref a30, w31, .int 0, .ref a32, .ref a33, .int 0, .ref a34, .ref a35, .int 1, .int (-1), .int 0, .int 0, .int 0, .int 20, .int 0, .int 0, .int 0, .int 0, .int 0, .int 0, .ref a36, .ref a37, .ref a38, .ref a39, .ref a40, .ref a41, .ref a42, .ref a43, .ref a44, .ref a45, .ref a46, .ref a47, w48, w49, w50, w51, w52, w53])), (a1, .inl (y 0, 7, .inl (fun _ => 0))), (a2, .inl (y 0, 7, .inl (fun _ => 0))), (a3, .inl (y 0, 7, .inl (fun _ => 0))), (a4, .inl (y 0, 7, .inl (fun _ => 0))), (a5, .inl (y 0, 7, .inl (fun _ => 0))), (a6, .inl (y 0, 28, .inl (fun _ => 0))), (a7, .inl (y 2, 7, .inl (fun _ => 0))), (a30, .inl (y 0, 7, .inl (fun _ => 0))), (a32, .inl (y 0, 6, .inl (fun _ => 0))), (a33, .inl (y 0, 6, .inl (fun _ => 0))), (a34, .inl (y 0, 8, .inl (fun _ => 0))), (a35, .inl (y 0, 8, .inl (fun _ => 0))), (a36, .inl (y 0, 7, .inl (fun _ => 0))), (a37, .inl (y 0, 7, .inl (fun _ => 0))), (a38, .inl (y 0, 7, .inl (fun _ => 0))), (a39, .inl (y 0, 7, .inl (fun _ => 0))), (a40, .inl (y 0, 7, .inl (fun _ => 0))), (a41, .inl (y 0, 28, .inl (fun _ => 0))), (a42, .inl (y 0, 7, .inl (fun _ => 0))), (a43, .inl (y 0, 6, .inl (fun _ => 0))), (a44, .inl (y 0, 6, .inl (fun _ => 0))), (a45, .inl (y 0, 8, .inl (fun _ => 0))), (a46, .inl (y 0, 8, .inl (fun _ => 0))), (a47, .inl (y 2, 7, .inl (fun _ => 0)))]) hx hb ht inlX10 tyX10 tyX10_ok nmX10 hown hK hS hW 0 rfl rfl 47 (by decide) zm_187 rfl rfl rfl (Nat.le_of_ble_eq_true rfl) rfl dX10_image_10 (fun H locs hW hS => ?_)
  refine lv_aload_n hx hb dX10_image_13 rfl (lv_at hl 0 rfl) ?_
  refine lv_aload_n hx hb dX10_image_14 rfl (lv_at hl 0 rfl) ?_
  refine zget hx hb ht inlX10 hown hK hW 0 rfl rfl 0 (by decide) zm_140 rfl dX10_image_15 ?_
  refine zput (ws' := [(a0, .inr (9, [.int 0, .int 0, .int 0, .int 20, .int 0, .int 0, .int 0, .ref a1, .ref a2, .ref a3, .ref a4, .ref a5, .ref a6, .ref a7, w8, .int (-1), w9, w10, w11, w12, w13, w14, w15, w16, w17, w18, w19, w20, w21, w22, w23, w24, w25, w26, w27, w28, w29, .int 0, .ref a30, w31, .int 0, .ref a32, .ref a33, .int 0, .ref a34, .ref a35, .int 1, .int (-1), .int 0, .int 0, .int 0, .int 20, .int 0, .int 0, .int 0, .int 0, .int 0, .int 0, .ref a36, .ref a37, .ref a38, .ref a39, .ref a40, .ref a41, .ref a42, .ref a43, .ref a44, .ref a45, .ref a46, .ref a47, w48, w49, w50, w51, w52, w53])), (a1, .inl (y 0, 7, .inl (fun _ => 0))), (a2, .inl (y 0, 7, .inl (fun _ => 0))), (a3, .inl (y 0, 7, .inl (fun _ => 0))), (a4, .inl (y 0, 7, .inl (fun _ => 0))), (a5, .inl (y 0, 7, .inl (fun _ => 0))), (a6, .inl (y 0, 28, .inl (fun _ => 0))), (a7, .inl (y 2, 7, .inl (fun _ => 0))), (a30, .inl (y 0, 7, .inl (fun _ => 0))), (a32, .inl (y 0, 6, .inl (fun _ => 0))), (a33, .inl (y 0, 6, .inl (fun _ => 0))), (a34, .inl (y 0, 8, .inl (fun _ => 0))), (a35, .inl (y 0, 8, .inl (fun _ => 0))), (a36, .inl (y 0, 7, .inl (fun _ => 0))), (a37, .inl (y 0, 7, .inl (fun _ => 0))), (a38, .inl (y 0, 7, .inl (fun _ => 0))), (a39, .inl (y 0, 7, .inl (fun _ => 0))), (a40, .inl (y 0, 7, .inl (fun _ => 0))), (a41, .inl (y 0, 28, .inl (fun _ => 0))), (a42, .inl (y 0, 7, .inl (fun _ => 0))), (a43, .inl (y 0, 6, .inl (fun _ => 0))), (a44, .inl (y 0, 6, .inl (fun _ => 0))), (a45, .inl (y 0, 8, .inl (fun _ => 0))), (a46, .inl (y 0, 8, .inl (fun _ => 0))), (a47, .inl (y 2, 7, .inl (fun _ => 0)))]) hx hb ht inlX10 tyX10 tyX10_ok nmX10 hown hK hS hW 0 rfl rfl 48 (by decide) zm_188 rfl rfl rfl (Nat.le_of_ble_eq_true rfl) rfl dX10_image_18 (fun H locs hW hS => ?_)
  refine lv_aload_n hx hb dX10_image_21 rfl (lv_at hl 0 rfl) ?_
  refine lv_aload_n hx hb dX10_image_22 rfl (lv_at hl 0 rfl) ?_
  refine zget hx hb ht inlX10 hown hK hW 0 rfl rfl 1 (by decide) zm_141 rfl dX10_image_23 ?_
  refine zput (ws' := [(a0, .inr (9, [.int 0, .int 0, .int 0, .int 20, .int 0, .int 0, .int 0, .ref a1, .ref a2, .ref a3, .ref a4, .ref a5, .ref a6, .ref a7, w8, .int (-1), w9, w10, w11, w12, w13, w14, w15, w16, w17, w18, w19, w20, w21, w22, w23, w24, w25, w26, w27, w28, w29, .int 0, .ref a30, w31, .int 0, .ref a32, .ref a33, .int 0, .ref a34, .ref a35, .int 1, .int (-1), .int 0, .int 0, .int 0, .int 20, .int 0, .int 0, .int 0, .int 0, .int 0, .int 0, .ref a36, .ref a37, .ref a38, .ref a39, .ref a40, .ref a41, .ref a42, .ref a43, .ref a44, .ref a45, .ref a46, .ref a47, w48, w49, w50, w51, w52, w53])), (a1, .inl (y 0, 7, .inl (fun _ => 0))), (a2, .inl (y 0, 7, .inl (fun _ => 0))), (a3, .inl (y 0, 7, .inl (fun _ => 0))), (a4, .inl (y 0, 7, .inl (fun _ => 0))), (a5, .inl (y 0, 7, .inl (fun _ => 0))), (a6, .inl (y 0, 28, .inl (fun _ => 0))), (a7, .inl (y 2, 7, .inl (fun _ => 0))), (a30, .inl (y 0, 7, .inl (fun _ => 0))), (a32, .inl (y 0, 6, .inl (fun _ => 0))), (a33, .inl (y 0, 6, .inl (fun _ => 0))), (a34, .inl (y 0, 8, .inl (fun _ => 0))), (a35, .inl (y 0, 8, .inl (fun _ => 0))), (a36, .inl (y 0, 7, .inl (fun _ => 0))), (a37, .inl (y 0, 7, .inl (fun _ => 0))), (a38, .inl (y 0, 7, .inl (fun _ => 0))), (a39, .inl (y 0, 7, .inl (fun _ => 0))), (a40, .inl (y 0, 7, .inl (fun _ => 0))), (a41, .inl (y 0, 28, .inl (fun _ => 0))), (a42, .inl (y 0, 7, .inl (fun _ => 0))), (a43, .inl (y 0, 6, .inl (fun _ => 0))), (a44, .inl (y 0, 6, .inl (fun _ => 0))), (a45, .inl (y 0, 8, .inl (fun _ => 0))), (a46, .inl (y 0, 8, .inl (fun _ => 0))), (a47, .inl (y 2, 7, .inl (fun _ => 0)))]) hx hb ht inlX10 tyX10 tyX10_ok nmX10 hown hK hS hW 0 rfl rfl 49 (by decide) zm_189 rfl rfl rfl (Nat.le_of_ble_eq_true rfl) rfl dX10_image_26 (fun H locs hW hS => ?_)
  refine lv_aload_n hx hb dX10_image_29 rfl (lv_at hl 0 rfl) ?_
  refine lv_aload_n hx hb dX10_image_30 rfl (lv_at hl 0 rfl) ?_
  refine zget hx hb ht inlX10 hown hK hW 0 rfl rfl 2 (by decide) zm_142 rfl dX10_image_31 ?_
  refine zput (ws' := [(a0, .inr (9, [.int 0, .int 0, .int 0, .int 20, .int 0, .int 0, .int 0, .ref a1, .ref a2, .ref a3, .ref a4, .ref a5, .ref a6, .ref a7, w8, .int (-1), w9, w10, w11, w12, w13, w14, w15, w16, w17, w18, w19, w20, w21, w22, w23, w24, w25, w26, w27, w28, w29, .int 0, .ref a30, w31, .int 0, .ref a32, .ref a33, .int 0, .ref a34, .ref a35, .int 1, .int (-1), .int 0, .int 0, .int 0, .int 20, .int 0, .int 0, .int 0, .int 0, .int 0, .int 0, .ref a36, .ref a37, .ref a38, .ref a39, .ref a40, .ref a41, .ref a42, .ref a43, .ref a44, .ref a45, .ref a46, .ref a47, w48, w49, w50, w51, w52, w53])), (a1, .inl (y 0, 7, .inl (fun _ => 0))), (a2, .inl (y 0, 7, .inl (fun _ => 0))), (a3, .inl (y 0, 7, .inl (fun _ => 0))), (a4, .inl (y 0, 7, .inl (fun _ => 0))), (a5, .inl (y 0, 7, .inl (fun _ => 0))), (a6, .inl (y 0, 28, .inl (fun _ => 0))), (a7, .inl (y 2, 7, .inl (fun _ => 0))), (a30, .inl (y 0, 7, .inl (fun _ => 0))), (a32, .inl (y 0, 6, .inl (fun _ => 0))), (a33, .inl (y 0, 6, .inl (fun _ => 0))), (a34, .inl (y 0, 8, .inl (fun _ => 0))), (a35, .inl (y 0, 8, .inl (fun _ => 0))), (a36, .inl (y 0, 7, .inl (fun _ => 0))), (a37, .inl (y 0, 7, .inl (fun _ => 0))), (a38, .inl (y 0, 7, .inl (fun _ => 0))), (a39, .inl (y 0, 7, .inl (fun _ => 0))), (a40, .inl (y 0, 7, .inl (fun _ => 0))), (a41, .inl (y 0, 28, .inl (fun _ => 0))), (a42, .inl (y 0, 7, .inl (fun _ => 0))), (a43, .inl (y 0, 6, .inl (fun _ => 0))), (a44, .inl (y 0, 6, .inl (fun _ => 0))), (a45, .inl (y 0, 8, .inl (fun _ => 0))), (a46, .inl (y 0, 8, .inl (fun _ => 0))), (a47, .inl (y 2, 7, .inl (fun _ => 0)))]) hx hb ht inlX10 tyX10 tyX10_ok nmX10 hown hK hS hW 0 rfl rfl 50 (by decide) zm_190 rfl rfl rfl (Nat.le_of_ble_eq_true rfl) rfl dX10_image_34 (fun H locs hW hS => ?_)
  refine lv_aload_n hx hb dX10_image_37 rfl (lv_at hl 0 rfl) ?_
  refine lv_aload_n hx hb dX10_image_38 rfl (lv_at hl 0 rfl) ?_
  refine zget hx hb ht inlX10 hown hK hW 0 rfl rfl 3 (by decide) zm_143 rfl dX10_image_39 ?_
  refine zput (ws' := [(a0, .inr (9, [.int 0, .int 0, .int 0, .int 20, .int 0, .int 0, .int 0, .ref a1, .ref a2, .ref a3, .ref a4, .ref a5, .ref a6, .ref a7, w8, .int (-1), w9, w10, w11, w12, w13, w14, w15, w16, w17, w18, w19, w20, w21, w22, w23, w24, w25, w26, w27, w28, w29, .int 0, .ref a30, w31, .int 0, .ref a32, .ref a33, .int 0, .ref a34, .ref a35, .int 1, .int (-1), .int 0, .int 0, .int 0, .int 20, .int 0, .int 0, .int 0, .int 0, .int 0, .int 0, .ref a36, .ref a37, .ref a38, .ref a39, .ref a40, .ref a41, .ref a42, .ref a43, .ref a44, .ref a45, .ref a46, .ref a47, w48, w49, w50, w51, w52, w53])), (a1, .inl (y 0, 7, .inl (fun _ => 0))), (a2, .inl (y 0, 7, .inl (fun _ => 0))), (a3, .inl (y 0, 7, .inl (fun _ => 0))), (a4, .inl (y 0, 7, .inl (fun _ => 0))), (a5, .inl (y 0, 7, .inl (fun _ => 0))), (a6, .inl (y 0, 28, .inl (fun _ => 0))), (a7, .inl (y 2, 7, .inl (fun _ => 0))), (a30, .inl (y 0, 7, .inl (fun _ => 0))), (a32, .inl (y 0, 6, .inl (fun _ => 0))), (a33, .inl (y 0, 6, .inl (fun _ => 0))), (a34, .inl (y 0, 8, .inl (fun _ => 0))), (a35, .inl (y 0, 8, .inl (fun _ => 0))), (a36, .inl (y 0, 7, .inl (fun _ => 0))), (a37, .inl (y 0, 7, .inl (fun _ => 0))), (a38, .inl (y 0, 7, .inl (fun _ => 0))), (a39, .inl (y 0, 7, .inl (fun _ => 0))), (a40, .inl (y 0, 7, .inl (fun _ => 0))), (a41, .inl (y 0, 28, .inl (fun _ => 0))), (a42, .inl (y 0, 7, .inl (fun _ => 0))), (a43, .inl (y 0, 6, .inl (fun _ => 0))), (a44, .inl (y 0, 6, .inl (fun _ => 0))), (a45, .inl (y 0, 8, .inl (fun _ => 0))), (a46, .inl (y 0, 8, .inl (fun _ => 0))), (a47, .inl (y 2, 7, .inl (fun _ => 0)))]) hx hb ht inlX10 tyX10 tyX10_ok nmX10 hown hK hS hW 0 rfl rfl 51 (by decide) zm_191 rfl rfl rfl (Nat.le_of_ble_eq_true rfl) rfl dX10_image_42 (fun H locs hW hS => ?_)
  refine lv_aload_n hx hb dX10_image_45 rfl (lv_at hl 0 rfl) ?_
  refine lv_aload_n hx hb dX10_image_46 rfl (lv_at hl 0 rfl) ?_
  refine zget hx hb ht inlX10 hown hK hW 0 rfl rfl 4 (by decide) zm_144 rfl dX10_image_47 ?_
  refine zput (ws' := [(a0, .inr (9, [.int 0, .int 0, .int 0, .int 20, .int 0, .int 0, .int 0, .ref a1, .ref a2, .ref a3, .ref a4, .ref a5, .ref a6, .ref a7, w8, .int (-1), w9, w10, w11, w12, w13, w14, w15, w16, w17, w18, w19, w20, w21, w22, w23, w24, w25, w26, w27, w28, w29, .int 0, .ref a30, w31, .int 0, .ref a32, .ref a33, .int 0, .ref a34, .ref a35, .int 1, .int (-1), .int 0, .int 0, .int 0, .int 20, .int 0, .int 0, .int 0, .int 0, .int 0, .int 0, .ref a36, .ref a37, .ref a38, .ref a39, .ref a40, .ref a41, .ref a42, .ref a43, .ref a44, .ref a45, .ref a46, .ref a47, w48, w49, w50, w51, w52, w53])), (a1, .inl (y 0, 7, .inl (fun _ => 0))), (a2, .inl (y 0, 7, .inl (fun _ => 0))), (a3, .inl (y 0, 7, .inl (fun _ => 0))), (a4, .inl (y 0, 7, .inl (fun _ => 0))), (a5, .inl (y 0, 7, .inl (fun _ => 0))), (a6, .inl (y 0, 28, .inl (fun _ => 0))), (a7, .inl (y 2, 7, .inl (fun _ => 0))), (a30, .inl (y 0, 7, .inl (fun _ => 0))), (a32, .inl (y 0, 6, .inl (fun _ => 0))), (a33, .inl (y 0, 6, .inl (fun _ => 0))), (a34, .inl (y 0, 8, .inl (fun _ => 0))), (a35, .inl (y 0, 8, .inl (fun _ => 0))), (a36, .inl (y 0, 7, .inl (fun _ => 0))), (a37, .inl (y 0, 7, .inl (fun _ => 0))), (a38, .inl (y 0, 7, .inl (fun _ => 0))), (a39, .inl (y 0, 7, .inl (fun _ => 0))), (a40, .inl (y 0, 7, .inl (fun _ => 0))), (a41, .inl (y 0, 28, .inl (fun _ => 0))), (a42, .inl (y 0, 7, .inl (fun _ => 0))), (a43, .inl (y 0, 6, .inl (fun _ => 0))), (a44, .inl (y 0, 6, .inl (fun _ => 0))), (a45, .inl (y 0, 8, .inl (fun _ => 0))), (a46, .inl (y 0, 8, .inl (fun _ => 0))), (a47, .inl (y 2, 7, .inl (fun _ => 0)))]) hx hb ht inlX10 tyX10 tyX10_ok nmX10 hown hK hS hW 0 rfl rfl 52 (by decide) zm_192 rfl rfl rfl (Nat.le_of_ble_eq_true rfl) rfl dX10_image_50 (fun H locs hW hS => ?_)
  refine lv_aload_n hx hb dX10_image_53 rfl (lv_at hl 0 rfl) ?_
  refine lv_aload_n hx hb dX10_image_54 rfl (lv_at hl 0 rfl) ?_
  refine zget hx hb ht inlX10 hown hK hW 0 rfl rfl 5 (by decide) zm_145 rfl dX10_image_55 ?_
  refine zput (ws' := [(a0, .inr (9, [.int 0, .int 0, .int 0, .int 20, .int 0, .int 0, .int 0, .ref a1, .ref a2, .ref a3, .ref a4, .ref a5, .ref a6, .ref a7, w8, .int (-1), w9, w10, w11, w12, w13, w14, w15, w16, w17, w18, w19, w20, w21, w22, w23, w24, w25, w26, w27, w28, w29, .int 0, .ref a30, w31, .int 0, .ref a32, .ref a33, .int 0, .ref a34, .ref a35, .int 1, .int (-1), .int 0, .int 0, .int 0, .int 20, .int 0, .int 0, .int 0, .int 0, .int 0, .int 0, .ref a36, .ref a37, .ref a38, .ref a39, .ref a40, .ref a41, .ref a42, .ref a43, .ref a44, .ref a45, .ref a46, .ref a47, w48, w49, w50, w51, w52, w53])), (a1, .inl (y 0, 7, .inl (fun _ => 0))), (a2, .inl (y 0, 7, .inl (fun _ => 0))), (a3, .inl (y 0, 7, .inl (fun _ => 0))), (a4, .inl (y 0, 7, .inl (fun _ => 0))), (a5, .inl (y 0, 7, .inl (fun _ => 0))), (a6, .inl (y 0, 28, .inl (fun _ => 0))), (a7, .inl (y 2, 7, .inl (fun _ => 0))), (a30, .inl (y 0, 7, .inl (fun _ => 0))), (a32, .inl (y 0, 6, .inl (fun _ => 0))), (a33, .inl (y 0, 6, .inl (fun _ => 0))), (a34, .inl (y 0, 8, .inl (fun _ => 0))), (a35, .inl (y 0, 8, .inl (fun _ => 0))), (a36, .inl (y 0, 7, .inl (fun _ => 0))), (a37, .inl (y 0, 7, .inl (fun _ => 0))), (a38, .inl (y 0, 7, .inl (fun _ => 0))), (a39, .inl (y 0, 7, .inl (fun _ => 0))), (a40, .inl (y 0, 7, .inl (fun _ => 0))), (a41, .inl (y 0, 28, .inl (fun _ => 0))), (a42, .inl (y 0, 7, .inl (fun _ => 0))), (a43, .inl (y 0, 6, .inl (fun _ => 0))), (a44, .inl (y 0, 6, .inl (fun _ => 0))), (a45, .inl (y 0, 8, .inl (fun _ => 0))), (a46, .inl (y 0, 8, .inl (fun _ => 0))), (a47, .inl (y 2, 7, .inl (fun _ => 0)))]) hx hb ht inlX10 tyX10 tyX10_ok nmX10 hown hK hS hW 0 rfl rfl 53 (by decide) zm_193 rfl rfl rfl (Nat.le_of_ble_eq_true rfl) rfl dX10_image_58 (fun H locs hW hS => ?_)
  refine lv_aload_n hx hb dX10_image_61 rfl (lv_at hl 0 rfl) ?_
  refine lv_aload_n hx hb dX10_image_62 rfl (lv_at hl 0 rfl) ?_
  refine zget hx hb ht inlX10 hown hK hW 0 rfl rfl 6 (by decide) zm_146 rfl dX10_image_63 ?_
  refine zput (ws' := [(a0, .inr (9, [.int 0, .int 0, .int 0, .int 20, .int 0, .int 0, .int 0, .ref a1, .ref a2, .ref a3, .ref a4, .ref a5, .ref a6, .ref a7, w8, .int (-1), w9, w10, w11, w12, w13, w14, w15, w16, w17, w18, w19, w20, w21, w22, w23, w24, w25, w26, w27, w28, w29, .int 0, .ref a30, w31, .int 0, .ref a32, .ref a33, .int 0, .ref a34, .ref a35, .int 1, .int (-1), .int 0, .int 0, .int 0, .int 20, .int 0, .int 0, .int 0, .int 0, .int 0, .int 0, .ref a36, .ref a37, .ref a38, .ref a39, .ref a40, .ref a41, .ref a42, .ref a43, .ref a44, .ref a45, .ref a46, .ref a47, w48, w49, w50, w51, w52, w53])), (a1, .inl (y 0, 7, .inl (fun _ => 0))), (a2, .inl (y 0, 7, .inl (fun _ => 0))), (a3, .inl (y 0, 7, .inl (fun _ => 0))), (a4, .inl (y 0, 7, .inl (fun _ => 0))), (a5, .inl (y 0, 7, .inl (fun _ => 0))), (a6, .inl (y 0, 28, .inl (fun _ => 0))), (a7, .inl (y 2, 7, .inl (fun _ => 0))), (a30, .inl (y 0, 7, .inl (fun _ => 0))), (a32, .inl (y 0, 6, .inl (fun _ => 0))), (a33, .inl (y 0, 6, .inl (fun _ => 0))), (a34, .inl (y 0, 8, .inl (fun _ => 0))), (a35, .inl (y 0, 8, .inl (fun _ => 0))), (a36, .inl (y 0, 7, .inl (fun _ => 0))), (a37, .inl (y 0, 7, .inl (fun _ => 0))), (a38, .inl (y 0, 7, .inl (fun _ => 0))), (a39, .inl (y 0, 7, .inl (fun _ => 0))), (a40, .inl (y 0, 7, .inl (fun _ => 0))), (a41, .inl (y 0, 28, .inl (fun _ => 0))), (a42, .inl (y 0, 7, .inl (fun _ => 0))), (a43, .inl (y 0, 6, .inl (fun _ => 0))), (a44, .inl (y 0, 6, .inl (fun _ => 0))), (a45, .inl (y 0, 8, .inl (fun _ => 0))), (a46, .inl (y 0, 8, .inl (fun _ => 0))), (a47, .inl (y 2, 7, .inl (fun _ => 0)))]) hx hb ht inlX10 tyX10 tyX10_ok nmX10 hown hK hS hW 0 rfl rfl 54 (by decide) zm_194 rfl rfl rfl (Nat.le_of_ble_eq_true rfl) rfl dX10_image_66 (fun H locs hW hS => ?_)
  refine lv_aload_n hx hb dX10_image_69 rfl (lv_at hl 0 rfl) ?_
  refine lv_aload_n hx hb dX10_image_70 rfl (lv_at hl 0 rfl) ?_
  refine zget hx hb ht inlX10 hown hK hW 0 rfl rfl 37 (by decide) zm_177 rfl dX10_image_71 ?_
  refine zput (ws' := [(a0, .inr (9, [.int 0, .int 0, .int 0, .int 20, .int 0, .int 0, .int 0, .ref a1, .ref a2, .ref a3, .ref a4, .ref a5, .ref a6, .ref a7, w8, .int (-1), w9, w10, w11, w12, w13, w14, w15, w16, w17, w18, w19, w20, w21, w22, w23, w24, w25, w26, w27, w28, w29, .int 0, .ref a30, w31, .int 0, .ref a32, .ref a33, .int 0, .ref a34, .ref a35, .int 1, .int (-1), .int 0, .int 0, .int 0, .int 20, .int 0, .int 0, .int 0, .int 0, .int 0, .int 0, .ref a36, .ref a37, .ref a38, .ref a39, .ref a40, .ref a41, .ref a42, .ref a43, .ref a44, .ref a45, .ref a46, .ref a47, w48, w49, w50, w51, w52, w53])), (a1, .inl (y 0, 7, .inl (fun _ => 0))), (a2, .inl (y 0, 7, .inl (fun _ => 0))), (a3, .inl (y 0, 7, .inl (fun _ => 0))), (a4, .inl (y 0, 7, .inl (fun _ => 0))), (a5, .inl (y 0, 7, .inl (fun _ => 0))), (a6, .inl (y 0, 28, .inl (fun _ => 0))), (a7, .inl (y 2, 7, .inl (fun _ => 0))), (a30, .inl (y 0, 7, .inl (fun _ => 0))), (a32, .inl (y 0, 6, .inl (fun _ => 0))), (a33, .inl (y 0, 6, .inl (fun _ => 0))), (a34, .inl (y 0, 8, .inl (fun _ => 0))), (a35, .inl (y 0, 8, .inl (fun _ => 0))), (a36, .inl (y 0, 7, .inl (fun _ => 0))), (a37, .inl (y 0, 7, .inl (fun _ => 0))), (a38, .inl (y 0, 7, .inl (fun _ => 0))), (a39, .inl (y 0, 7, .inl (fun _ => 0))), (a40, .inl (y 0, 7, .inl (fun _ => 0))), (a41, .inl (y 0, 28, .inl (fun _ => 0))), (a42, .inl (y 0, 7, .inl (fun _ => 0))), (a43, .inl (y 0, 6, .inl (fun _ => 0))), (a44, .inl (y 0, 6, .inl (fun _ => 0))), (a45, .inl (y 0, 8, .inl (fun _ => 0))), (a46, .inl (y 0, 8, .inl (fun _ => 0))), (a47, .inl (y 2, 7, .inl (fun _ => 0)))]) hx hb ht inlX10 tyX10 tyX10_ok nmX10 hown hK hS hW 0 rfl rfl 55 (by decide) zm_195 rfl rfl rfl (Nat.le_of_ble_eq_true rfl) rfl dX10_image_74 (fun H locs hW hS => ?_)
  refine lv_aload_n hx hb dX10_image_77 rfl (lv_at hl 0 rfl) ?_
  refine lv_aload_n hx hb dX10_image_78 rfl (lv_at hl 0 rfl) ?_
  refine zget hx hb ht inlX10 hown hK hW 0 rfl rfl 40 (by decide) zm_180 rfl dX10_image_79 ?_
  refine zput (ws' := [(a0, .inr (9, [.int 0, .int 0, .int 0, .int 20, .int 0, .int 0, .int 0, .ref a1, .ref a2, .ref a3, .ref a4, .ref a5, .ref a6, .ref a7, w8, .int (-1), w9, w10, w11, w12, w13, w14, w15, w16, w17, w18, w19, w20, w21, w22, w23, w24, w25, w26, w27, w28, w29, .int 0, .ref a30, w31, .int 0, .ref a32, .ref a33, .int 0, .ref a34, .ref a35, .int 1, .int (-1), .int 0, .int 0, .int 0, .int 20, .int 0, .int 0, .int 0, .int 0, .int 0, .int 0, .ref a36, .ref a37, .ref a38, .ref a39, .ref a40, .ref a41, .ref a42, .ref a43, .ref a44, .ref a45, .ref a46, .ref a47, w48, w49, w50, w51, w52, w53])), (a1, .inl (y 0, 7, .inl (fun _ => 0))), (a2, .inl (y 0, 7, .inl (fun _ => 0))), (a3, .inl (y 0, 7, .inl (fun _ => 0))), (a4, .inl (y 0, 7, .inl (fun _ => 0))), (a5, .inl (y 0, 7, .inl (fun _ => 0))), (a6, .inl (y 0, 28, .inl (fun _ => 0))), (a7, .inl (y 2, 7, .inl (fun _ => 0))), (a30, .inl (y 0, 7, .inl (fun _ => 0))), (a32, .inl (y 0, 6, .inl (fun _ => 0))), (a33, .inl (y 0, 6, .inl (fun _ => 0))), (a34, .inl (y 0, 8, .inl (fun _ => 0))), (a35, .inl (y 0, 8, .inl (fun _ => 0))), (a36, .inl (y 0, 7, .inl (fun _ => 0))), (a37, .inl (y 0, 7, .inl (fun _ => 0))), (a38, .inl (y 0, 7, .inl (fun _ => 0))), (a39, .inl (y 0, 7, .inl (fun _ => 0))), (a40, .inl (y 0, 7, .inl (fun _ => 0))), (a41, .inl (y 0, 28, .inl (fun _ => 0))), (a42, .inl (y 0, 7, .inl (fun _ => 0))), (a43, .inl (y 0, 6, .inl (fun _ => 0))), (a44, .inl (y 0, 6, .inl (fun _ => 0))), (a45, .inl (y 0, 8, .inl (fun _ => 0))), (a46, .inl (y 0, 8, .inl (fun _ => 0))), (a47, .inl (y 2, 7, .inl (fun _ => 0)))]) hx hb ht inlX10 tyX10 tyX10_ok nmX10 hown hK hS hW 0 rfl rfl 56 (by decide) zm_196 rfl rfl rfl (Nat.le_of_ble_eq_true rfl) rfl dX10_image_82 (fun H locs hW hS => ?_)
  refine lv_aload_n hx hb dX10_image_85 rfl (lv_at hl 0 rfl) ?_
  refine lv_aload_n hx hb dX10_image_86 rfl (lv_at hl 0 rfl) ?_
  refine zget hx hb ht inlX10 hown hK hW 0 rfl rfl 43 (by decide) zm_183 rfl dX10_image_87 ?_
  refine zput (ws' := [(a0, .inr (9, [.int 0, .int 0, .int 0, .int 20, .int 0, .int 0, .int 0, .ref a1, .ref a2, .ref a3, .ref a4, .ref a5, .ref a6, .ref a7, w8, .int (-1), w9, w10, w11, w12, w13, w14, w15, w16, w17, w18, w19, w20, w21, w22, w23, w24, w25, w26, w27, w28, w29, .int 0, .ref a30, w31, .int 0, .ref a32, .ref a33, .int 0, .ref a34, .ref a35, .int 1, .int (-1), .int 0, .int 0, .int 0, .int 20, .int 0, .int 0, .int 0, .int 0, .int 0, .int 0, .ref a36, .ref a37, .ref a38, .ref a39, .ref a40, .ref a41, .ref a42, .ref a43, .ref a44, .ref a45, .ref a46, .ref a47, w48, w49, w50, w51, w52, w53])), (a1, .inl (y 0, 7, .inl (fun _ => 0))), (a2, .inl (y 0, 7, .inl (fun _ => 0))), (a3, .inl (y 0, 7, .inl (fun _ => 0))), (a4, .inl (y 0, 7, .inl (fun _ => 0))), (a5, .inl (y 0, 7, .inl (fun _ => 0))), (a6, .inl (y 0, 28, .inl (fun _ => 0))), (a7, .inl (y 2, 7, .inl (fun _ => 0))), (a30, .inl (y 0, 7, .inl (fun _ => 0))), (a32, .inl (y 0, 6, .inl (fun _ => 0))), (a33, .inl (y 0, 6, .inl (fun _ => 0))), (a34, .inl (y 0, 8, .inl (fun _ => 0))), (a35, .inl (y 0, 8, .inl (fun _ => 0))), (a36, .inl (y 0, 7, .inl (fun _ => 0))), (a37, .inl (y 0, 7, .inl (fun _ => 0))), (a38, .inl (y 0, 7, .inl (fun _ => 0))), (a39, .inl (y 0, 7, .inl (fun _ => 0))), (a40, .inl (y 0, 7, .inl (fun _ => 0))), (a41, .inl (y 0, 28, .inl (fun _ => 0))), (a42, .inl (y 0, 7, .inl (fun _ => 0))), (a43, .inl (y 0, 6, .inl (fun _ => 0))), (a44, .inl (y 0, 6, .inl (fun _ => 0))), (a45, .inl (y 0, 8, .inl (fun _ => 0))), (a46, .inl (y 0, 8, .inl (fun _ => 0))), (a47, .inl (y 2, 7, .inl (fun _ => 0)))]) hx hb ht inlX10 tyX10 tyX10_ok nmX10 hown hK hS hW 0 rfl rfl 57 (by decide) zm_197 rfl rfl rfl (Nat.le_of_ble_eq_true rfl) rfl dX10_image_90 (fun H locs hW hS => ?_)
  refine lv_iconst (v := 0) hx hb dX10_image_93 (by decide) ?_
  refine lv_istore_n (lv' := [(1, .int 0), (0, .ref a0)]) hx hb dX10_image_94 rfl hl (by decide) rfl (fun ls hl => ?_)
  refine lv_iload_n hx hb dX10_image_95 rfl (lv_at hl 0 rfl) ?_
  refine lv_bipush (v := 7) hx hb dX10_image_96 (by decide) ?_
  refine lv_icmp_ge (tgt := 191) hx hb dX10_image_98 (by decide) (fun c1_ => absurd c1_ (by decide)) (fun c1_ => ?_)
  refine lv_aload_n hx hb dX10_image_101 rfl (lv_at hl 1 rfl) ?_
  refine zget hx hb ht inlX10 hown hK hW 0 rfl rfl 58 (by decide) zm_198 rfl dX10_image_102 ?_
  refine lv_iload_n hx hb dX10_image_105 rfl (lv_at hl 0 rfl) ?_
  refine lv_aload_n hx hb dX10_image_106 rfl (lv_at hl 1 rfl) ?_
  refine zget hx hb ht inlX10 hown hK hW 0 rfl rfl 7 (by decide) zm_147 rfl dX10_image_107 ?_
  refine lv_iload_n hx hb dX10_image_110 rfl (lv_at hl 0 rfl) ?_
  refine ziald (v := 0) hx hb hK hW 1 rfl (by unfold vp_in; decide) rfl dX10_image_111 ?_
  refine ziast0 hx hb hK hS hW 13 rfl (by unfold vp_in; decide) (zupd0 _) dX10_image_112 (fun H locs hW hS => ?_)
  refine lv_aload_n hx hb dX10_image_113 rfl (lv_at hl 1 rfl) ?_
  refine zget hx hb ht inlX10 hown hK hW 0 rfl rfl 59 (by decide) zm_199 rfl dX10_image_114 ?_
  refine lv_iload_n hx hb dX10_image_117 rfl (lv_at hl 0 rfl) ?_
  refine lv_aload_n hx hb dX10_image_118 rfl (lv_at hl 1 rfl) ?_
  refine zget hx hb ht inlX10 hown hK hW 0 rfl rfl 8 (by decide) zm_148 rfl dX10_image_119 ?_
  refine lv_iload_n hx hb dX10_image_122 rfl (lv_at hl 0 rfl) ?_
  refine ziald (v := 0) hx hb hK hW 2 rfl (by unfold vp_in; decide) rfl dX10_image_123 ?_
  refine ziast0 hx hb hK hS hW 14 rfl (by unfold vp_in; decide) (zupd0 _) dX10_image_124 (fun H locs hW hS => ?_)
  refine lv_aload_n hx hb dX10_image_125 rfl (lv_at hl 1 rfl) ?_
  refine zget hx hb ht inlX10 hown hK hW 0 rfl rfl 60 (by decide) zm_200 rfl dX10_image_126 ?_
  refine lv_iload_n hx hb dX10_image_129 rfl (lv_at hl 0 rfl) ?_
  refine lv_aload_n hx hb dX10_image_130 rfl (lv_at hl 1 rfl) ?_
  refine zget hx hb ht inlX10 hown hK hW 0 rfl rfl 9 (by decide) zm_149 rfl dX10_image_131 ?_
  refine lv_iload_n hx hb dX10_image_134 rfl (lv_at hl 0 rfl) ?_
  refine ziald (v := 0) hx hb hK hW 3 rfl (by unfold vp_in; decide) rfl dX10_image_135 ?_
  refine ziast0 hx hb hK hS hW 15 rfl (by unfold vp_in; decide) (zupd0 _) dX10_image_136 (fun H locs hW hS => ?_)
  refine lv_aload_n hx hb dX10_image_137 rfl (lv_at hl 1 rfl) ?_
  refine zget hx hb ht inlX10 hown hK hW 0 rfl rfl 61 (by decide) zm_201 rfl dX10_image_138 ?_
  refine lv_iload_n hx hb dX10_image_141 rfl (lv_at hl 0 rfl) ?_
  refine lv_aload_n hx hb dX10_image_142 rfl (lv_at hl 1 rfl) ?_
  refine zget hx hb ht inlX10 hown hK hW 0 rfl rfl 10 (by decide) zm_150 rfl dX10_image_143 ?_
  refine lv_iload_n hx hb dX10_image_146 rfl (lv_at hl 0 rfl) ?_
  refine ziald (v := 0) hx hb hK hW 4 rfl (by unfold vp_in; decide) rfl dX10_image_147 ?_
  refine ziast0 hx hb hK hS hW 16 rfl (by unfold vp_in; decide) (zupd0 _) dX10_image_148 (fun H locs hW hS => ?_)
  refine lv_aload_n hx hb dX10_image_149 rfl (lv_at hl 1 rfl) ?_
  refine zget hx hb ht inlX10 hown hK hW 0 rfl rfl 62 (by decide) zm_202 rfl dX10_image_150 ?_
  refine lv_iload_n hx hb dX10_image_153 rfl (lv_at hl 0 rfl) ?_
  refine lv_aload_n hx hb dX10_image_154 rfl (lv_at hl 1 rfl) ?_
  refine zget hx hb ht inlX10 hown hK hW 0 rfl rfl 11 (by decide) zm_151 rfl dX10_image_155 ?_
  refine lv_iload_n hx hb dX10_image_158 rfl (lv_at hl 0 rfl) ?_
  refine ziald (v := 0) hx hb hK hW 5 rfl (by unfold vp_in; decide) rfl dX10_image_159 ?_
  refine ziast0 hx hb hK hS hW 17 rfl (by unfold vp_in; decide) (zupd0 _) dX10_image_160 (fun H locs hW hS => ?_)
  refine lv_aload_n hx hb dX10_image_161 rfl (lv_at hl 1 rfl) ?_
  refine zget hx hb ht inlX10 hown hK hW 0 rfl rfl 69 (by decide) zm_209 rfl dX10_image_162 ?_
  refine lv_iload_n hx hb dX10_image_165 rfl (lv_at hl 0 rfl) ?_
  refine lv_aload_n hx hb dX10_image_166 rfl (lv_at hl 1 rfl) ?_
  refine zget hx hb ht inlX10 hown hK hW 0 rfl rfl 13 (by decide) zm_153 rfl dX10_image_167 ?_
  refine lv_iload_n hx hb dX10_image_170 rfl (lv_at hl 0 rfl) ?_
  refine zzald (v := 0) hx hb hK hW 7 rfl (by unfold vp_in; decide) rfl dX10_image_171 ?_
  refine zzast0 hx hb hK hS hW 24 rfl (by unfold vp_in; decide) (zupdB0 _) dX10_image_172 (fun H locs hW hS => ?_)
  refine lv_aload_n hx hb dX10_image_173 rfl (lv_at hl 1 rfl) ?_
  refine zget hx hb ht inlX10 hown hK hW 0 rfl rfl 64 (by decide) zm_204 rfl dX10_image_174 ?_
  refine lv_iload_n hx hb dX10_image_177 rfl (lv_at hl 0 rfl) ?_
  refine lv_aload_n hx hb dX10_image_178 rfl (lv_at hl 1 rfl) ?_
  refine zget hx hb ht inlX10 hown hK hW 0 rfl rfl 38 (by decide) zm_178 rfl dX10_image_179 ?_
  refine lv_iload_n hx hb dX10_image_182 rfl (lv_at hl 0 rfl) ?_
  refine ziald (v := 0) hx hb hK hW 8 rfl (by unfold vp_in; decide) rfl dX10_image_183 ?_
  refine ziast0 hx hb hK hS hW 19 rfl (by unfold vp_in; decide) (zupd0 _) dX10_image_184 (fun H locs hW hS => ?_)
  refine lv_iinc (k := 0) (v := 1) (lv' := [(1, .int 1), (0, .ref a0)]) hx hb dX10_image_185 hl rfl (by decide) (by decide) rfl (fun ls hl => ?_)
  refine lv_goto (tgt := 95) hx hb dX10_image_188 (by decide) ?_
  refine lv_iload_n hx hb dX10_image_95 rfl (lv_at hl 0 rfl) ?_
  refine lv_bipush (v := 7) hx hb dX10_image_96 (by decide) ?_
  refine lv_icmp_ge (tgt := 191) hx hb dX10_image_98 (by decide) (fun c2_ => absurd c2_ (by decide)) (fun c2_ => ?_)
  refine lv_aload_n hx hb dX10_image_101 rfl (lv_at hl 1 rfl) ?_
  refine zget hx hb ht inlX10 hown hK hW 0 rfl rfl 58 (by decide) zm_198 rfl dX10_image_102 ?_
  refine lv_iload_n hx hb dX10_image_105 rfl (lv_at hl 0 rfl) ?_
  refine lv_aload_n hx hb dX10_image_106 rfl (lv_at hl 1 rfl) ?_
  refine zget hx hb ht inlX10 hown hK hW 0 rfl rfl 7 (by decide) zm_147 rfl dX10_image_107 ?_
  refine lv_iload_n hx hb dX10_image_110 rfl (lv_at hl 0 rfl) ?_
  refine ziald (v := 0) hx hb hK hW 1 rfl (by unfold vp_in; decide) rfl dX10_image_111 ?_
  refine ziast0 hx hb hK hS hW 13 rfl (by unfold vp_in; decide) (zupd0 _) dX10_image_112 (fun H locs hW hS => ?_)
  refine lv_aload_n hx hb dX10_image_113 rfl (lv_at hl 1 rfl) ?_
  refine zget hx hb ht inlX10 hown hK hW 0 rfl rfl 59 (by decide) zm_199 rfl dX10_image_114 ?_
  refine lv_iload_n hx hb dX10_image_117 rfl (lv_at hl 0 rfl) ?_
  refine lv_aload_n hx hb dX10_image_118 rfl (lv_at hl 1 rfl) ?_
  refine zget hx hb ht inlX10 hown hK hW 0 rfl rfl 8 (by decide) zm_148 rfl dX10_image_119 ?_
  refine lv_iload_n hx hb dX10_image_122 rfl (lv_at hl 0 rfl) ?_
  refine ziald (v := 0) hx hb hK hW 2 rfl (by unfold vp_in; decide) rfl dX10_image_123 ?_
  refine ziast0 hx hb hK hS hW 14 rfl (by unfold vp_in; decide) (zupd0 _) dX10_image_124 (fun H locs hW hS => ?_)
  refine lv_aload_n hx hb dX10_image_125 rfl (lv_at hl 1 rfl) ?_
  refine zget hx hb ht inlX10 hown hK hW 0 rfl rfl 60 (by decide) zm_200 rfl dX10_image_126 ?_
  refine lv_iload_n hx hb dX10_image_129 rfl (lv_at hl 0 rfl) ?_
  refine lv_aload_n hx hb dX10_image_130 rfl (lv_at hl 1 rfl) ?_
  refine zget hx hb ht inlX10 hown hK hW 0 rfl rfl 9 (by decide) zm_149 rfl dX10_image_131 ?_
  refine lv_iload_n hx hb dX10_image_134 rfl (lv_at hl 0 rfl) ?_
  refine ziald (v := 0) hx hb hK hW 3 rfl (by unfold vp_in; decide) rfl dX10_image_135 ?_
  refine ziast0 hx hb hK hS hW 15 rfl (by unfold vp_in; decide) (zupd0 _) dX10_image_136 (fun H locs hW hS => ?_)
  refine lv_aload_n hx hb dX10_image_137 rfl (lv_at hl 1 rfl) ?_
  refine zget hx hb ht inlX10 hown hK hW 0 rfl rfl 61 (by decide) zm_201 rfl dX10_image_138 ?_
  refine lv_iload_n hx hb dX10_image_141 rfl (lv_at hl 0 rfl) ?_
  refine lv_aload_n hx hb dX10_image_142 rfl (lv_at hl 1 rfl) ?_
  refine zget hx hb ht inlX10 hown hK hW 0 rfl rfl 10 (by decide) zm_150 rfl dX10_image_143 ?_
  refine lv_iload_n hx hb dX10_image_146 rfl (lv_at hl 0 rfl) ?_
  refine ziald (v := 0) hx hb hK hW 4 rfl (by unfold vp_in; decide) rfl dX10_image_147 ?_
  refine ziast0 hx hb hK hS hW 16 rfl (by unfold vp_in; decide) (zupd0 _) dX10_image_148 (fun H locs hW hS => ?_)
  refine lv_aload_n hx hb dX10_image_149 rfl (lv_at hl 1 rfl) ?_
  refine zget hx hb ht inlX10 hown hK hW 0 rfl rfl 62 (by decide) zm_202 rfl dX10_image_150 ?_
  refine lv_iload_n hx hb dX10_image_153 rfl (lv_at hl 0 rfl) ?_
  refine lv_aload_n hx hb dX10_image_154 rfl (lv_at hl 1 rfl) ?_
  refine zget hx hb ht inlX10 hown hK hW 0 rfl rfl 11 (by decide) zm_151 rfl dX10_image_155 ?_
  refine lv_iload_n hx hb dX10_image_158 rfl (lv_at hl 0 rfl) ?_
  refine ziald (v := 0) hx hb hK hW 5 rfl (by unfold vp_in; decide) rfl dX10_image_159 ?_
  refine ziast0 hx hb hK hS hW 17 rfl (by unfold vp_in; decide) (zupd0 _) dX10_image_160 (fun H locs hW hS => ?_)
  refine lv_aload_n hx hb dX10_image_161 rfl (lv_at hl 1 rfl) ?_
  refine zget hx hb ht inlX10 hown hK hW 0 rfl rfl 69 (by decide) zm_209 rfl dX10_image_162 ?_
  refine lv_iload_n hx hb dX10_image_165 rfl (lv_at hl 0 rfl) ?_
  refine lv_aload_n hx hb dX10_image_166 rfl (lv_at hl 1 rfl) ?_
  refine zget hx hb ht inlX10 hown hK hW 0 rfl rfl 13 (by decide) zm_153 rfl dX10_image_167 ?_
  refine lv_iload_n hx hb dX10_image_170 rfl (lv_at hl 0 rfl) ?_
  refine zzald (v := 0) hx hb hK hW 7 rfl (by unfold vp_in; decide) rfl dX10_image_171 ?_
  refine zzast0 hx hb hK hS hW 24 rfl (by unfold vp_in; decide) (zupdB0 _) dX10_image_172 (fun H locs hW hS => ?_)
  refine lv_aload_n hx hb dX10_image_173 rfl (lv_at hl 1 rfl) ?_
  refine zget hx hb ht inlX10 hown hK hW 0 rfl rfl 64 (by decide) zm_204 rfl dX10_image_174 ?_
  refine lv_iload_n hx hb dX10_image_177 rfl (lv_at hl 0 rfl) ?_
  refine lv_aload_n hx hb dX10_image_178 rfl (lv_at hl 1 rfl) ?_
  refine zget hx hb ht inlX10 hown hK hW 0 rfl rfl 38 (by decide) zm_178 rfl dX10_image_179 ?_
  refine lv_iload_n hx hb dX10_image_182 rfl (lv_at hl 0 rfl) ?_
  refine ziald (v := 0) hx hb hK hW 8 rfl (by unfold vp_in; decide) rfl dX10_image_183 ?_
  refine ziast0 hx hb hK hS hW 19 rfl (by unfold vp_in; decide) (zupd0 _) dX10_image_184 (fun H locs hW hS => ?_)
  refine lv_iinc (k := 0) (v := 2) (lv' := [(1, .int 2), (0, .ref a0)]) hx hb dX10_image_185 hl rfl (by decide) (by decide) rfl (fun ls hl => ?_)
  refine lv_goto (tgt := 95) hx hb dX10_image_188 (by decide) ?_
  refine lv_iload_n hx hb dX10_image_95 rfl (lv_at hl 0 rfl) ?_
  refine lv_bipush (v := 7) hx hb dX10_image_96 (by decide) ?_
  refine lv_icmp_ge (tgt := 191) hx hb dX10_image_98 (by decide) (fun c3_ => absurd c3_ (by decide)) (fun c3_ => ?_)
  refine lv_aload_n hx hb dX10_image_101 rfl (lv_at hl 1 rfl) ?_
  refine zget hx hb ht inlX10 hown hK hW 0 rfl rfl 58 (by decide) zm_198 rfl dX10_image_102 ?_
  refine lv_iload_n hx hb dX10_image_105 rfl (lv_at hl 0 rfl) ?_
  refine lv_aload_n hx hb dX10_image_106 rfl (lv_at hl 1 rfl) ?_
  refine zget hx hb ht inlX10 hown hK hW 0 rfl rfl 7 (by decide) zm_147 rfl dX10_image_107 ?_
  refine lv_iload_n hx hb dX10_image_110 rfl (lv_at hl 0 rfl) ?_
  refine ziald (v := 0) hx hb hK hW 1 rfl (by unfold vp_in; decide) rfl dX10_image_111 ?_
  refine ziast0 hx hb hK hS hW 13 rfl (by unfold vp_in; decide) (zupd0 _) dX10_image_112 (fun H locs hW hS => ?_)
  refine lv_aload_n hx hb dX10_image_113 rfl (lv_at hl 1 rfl) ?_
  refine zget hx hb ht inlX10 hown hK hW 0 rfl rfl 59 (by decide) zm_199 rfl dX10_image_114 ?_
  refine lv_iload_n hx hb dX10_image_117 rfl (lv_at hl 0 rfl) ?_
  refine lv_aload_n hx hb dX10_image_118 rfl (lv_at hl 1 rfl) ?_
  refine zget hx hb ht inlX10 hown hK hW 0 rfl rfl 8 (by decide) zm_148 rfl dX10_image_119 ?_
  refine lv_iload_n hx hb dX10_image_122 rfl (lv_at hl 0 rfl) ?_
  refine ziald (v := 0) hx hb hK hW 2 rfl (by unfold vp_in; decide) rfl dX10_image_123 ?_
  refine ziast0 hx hb hK hS hW 14 rfl (by unfold vp_in; decide) (zupd0 _) dX10_image_124 (fun H locs hW hS => ?_)
  refine lv_aload_n hx hb dX10_image_125 rfl (lv_at hl 1 rfl) ?_
  refine zget hx hb ht inlX10 hown hK hW 0 rfl rfl 60 (by decide) zm_200 rfl dX10_image_126 ?_
  refine lv_iload_n hx hb dX10_image_129 rfl (lv_at hl 0 rfl) ?_
  refine lv_aload_n hx hb dX10_image_130 rfl (lv_at hl 1 rfl) ?_
  refine zget hx hb ht inlX10 hown hK hW 0 rfl rfl 9 (by decide) zm_149 rfl dX10_image_131 ?_
  refine lv_iload_n hx hb dX10_image_134 rfl (lv_at hl 0 rfl) ?_
  refine ziald (v := 0) hx hb hK hW 3 rfl (by unfold vp_in; decide) rfl dX10_image_135 ?_
  refine ziast0 hx hb hK hS hW 15 rfl (by unfold vp_in; decide) (zupd0 _) dX10_image_136 (fun H locs hW hS => ?_)
  refine lv_aload_n hx hb dX10_image_137 rfl (lv_at hl 1 rfl) ?_
  refine zget hx hb ht inlX10 hown hK hW 0 rfl rfl 61 (by decide) zm_201 rfl dX10_image_138 ?_
  refine lv_iload_n hx hb dX10_image_141 rfl (lv_at hl 0 rfl) ?_
  refine lv_aload_n hx hb dX10_image_142 rfl (lv_at hl 1 rfl) ?_
  refine zget hx hb ht inlX10 hown hK hW 0 rfl rfl 10 (by decide) zm_150 rfl dX10_image_143 ?_
  refine lv_iload_n hx hb dX10_image_146 rfl (lv_at hl 0 rfl) ?_
  refine ziald (v := 0) hx hb hK hW 4 rfl (by unfold vp_in; decide) rfl dX10_image_147 ?_
  refine ziast0 hx hb hK hS hW 16 rfl (by unfold vp_in; decide) (zupd0 _) dX10_image_148 (fun H locs hW hS => ?_)
  refine lv_aload_n hx hb dX10_image_149 rfl (lv_at hl 1 rfl) ?_
  refine zget hx hb ht inlX10 hown hK hW 0 rfl rfl 62 (by decide) zm_202 rfl dX10_image_150 ?_
  refine lv_iload_n hx hb dX10_image_153 rfl (lv_at hl 0 rfl) ?_
  refine lv_aload_n hx hb dX10_image_154 rfl (lv_at hl 1 rfl) ?_
  refine zget hx hb ht inlX10 hown hK hW 0 rfl rfl 11 (by decide) zm_151 rfl dX10_image_155 ?_
  refine lv_iload_n hx hb dX10_image_158 rfl (lv_at hl 0 rfl) ?_
  refine ziald (v := 0) hx hb hK hW 5 rfl (by unfold vp_in; decide) rfl dX10_image_159 ?_
  refine ziast0 hx hb hK hS hW 17 rfl (by unfold vp_in; decide) (zupd0 _) dX10_image_160 (fun H locs hW hS => ?_)
  refine lv_aload_n hx hb dX10_image_161 rfl (lv_at hl 1 rfl) ?_
  refine zget hx hb ht inlX10 hown hK hW 0 rfl rfl 69 (by decide) zm_209 rfl dX10_image_162 ?_
  refine lv_iload_n hx hb dX10_image_165 rfl (lv_at hl 0 rfl) ?_
  refine lv_aload_n hx hb dX10_image_166 rfl (lv_at hl 1 rfl) ?_
  refine zget hx hb ht inlX10 hown hK hW 0 rfl rfl 13 (by decide) zm_153 rfl dX10_image_167 ?_
  refine lv_iload_n hx hb dX10_image_170 rfl (lv_at hl 0 rfl) ?_
  refine zzald (v := 0) hx hb hK hW 7 rfl (by unfold vp_in; decide) rfl dX10_image_171 ?_
  refine zzast0 hx hb hK hS hW 24 rfl (by unfold vp_in; decide) (zupdB0 _) dX10_image_172 (fun H locs hW hS => ?_)
  refine lv_aload_n hx hb dX10_image_173 rfl (lv_at hl 1 rfl) ?_
  refine zget hx hb ht inlX10 hown hK hW 0 rfl rfl 64 (by decide) zm_204 rfl dX10_image_174 ?_
  refine lv_iload_n hx hb dX10_image_177 rfl (lv_at hl 0 rfl) ?_
  refine lv_aload_n hx hb dX10_image_178 rfl (lv_at hl 1 rfl) ?_
  refine zget hx hb ht inlX10 hown hK hW 0 rfl rfl 38 (by decide) zm_178 rfl dX10_image_179 ?_
  refine lv_iload_n hx hb dX10_image_182 rfl (lv_at hl 0 rfl) ?_
  refine ziald (v := 0) hx hb hK hW 8 rfl (by unfold vp_in; decide) rfl dX10_image_183 ?_
  refine ziast0 hx hb hK hS hW 19 rfl (by unfold vp_in; decide) (zupd0 _) dX10_image_184 (fun H locs hW hS => ?_)
  refine lv_iinc (k := 0) (v := 3) (lv' := [(1, .int 3), (0, .ref a0)]) hx hb dX10_image_185 hl rfl (by decide) (by decide) rfl (fun ls hl => ?_)
  refine lv_goto (tgt := 95) hx hb dX10_image_188 (by decide) ?_
  refine lv_iload_n hx hb dX10_image_95 rfl (lv_at hl 0 rfl) ?_
  refine lv_bipush (v := 7) hx hb dX10_image_96 (by decide) ?_
  refine lv_icmp_ge (tgt := 191) hx hb dX10_image_98 (by decide) (fun c4_ => absurd c4_ (by decide)) (fun c4_ => ?_)
  refine lv_aload_n hx hb dX10_image_101 rfl (lv_at hl 1 rfl) ?_
  refine zget hx hb ht inlX10 hown hK hW 0 rfl rfl 58 (by decide) zm_198 rfl dX10_image_102 ?_
  refine lv_iload_n hx hb dX10_image_105 rfl (lv_at hl 0 rfl) ?_
  refine lv_aload_n hx hb dX10_image_106 rfl (lv_at hl 1 rfl) ?_
  refine zget hx hb ht inlX10 hown hK hW 0 rfl rfl 7 (by decide) zm_147 rfl dX10_image_107 ?_
  refine lv_iload_n hx hb dX10_image_110 rfl (lv_at hl 0 rfl) ?_
  refine ziald (v := 0) hx hb hK hW 1 rfl (by unfold vp_in; decide) rfl dX10_image_111 ?_
  refine ziast0 hx hb hK hS hW 13 rfl (by unfold vp_in; decide) (zupd0 _) dX10_image_112 (fun H locs hW hS => ?_)
  refine lv_aload_n hx hb dX10_image_113 rfl (lv_at hl 1 rfl) ?_
  refine zget hx hb ht inlX10 hown hK hW 0 rfl rfl 59 (by decide) zm_199 rfl dX10_image_114 ?_
  refine lv_iload_n hx hb dX10_image_117 rfl (lv_at hl 0 rfl) ?_
  refine lv_aload_n hx hb dX10_image_118 rfl (lv_at hl 1 rfl) ?_
  refine zget hx hb ht inlX10 hown hK hW 0 rfl rfl 8 (by decide) zm_148 rfl dX10_image_119 ?_
  refine lv_iload_n hx hb dX10_image_122 rfl (lv_at hl 0 rfl) ?_
  refine ziald (v := 0) hx hb hK hW 2 rfl (by unfold vp_in; decide) rfl dX10_image_123 ?_
  refine ziast0 hx hb hK hS hW 14 rfl (by unfold vp_in; decide) (zupd0 _) dX10_image_124 (fun H locs hW hS => ?_)
  refine lv_aload_n hx hb dX10_image_125 rfl (lv_at hl 1 rfl) ?_
  refine zget hx hb ht inlX10 hown hK hW 0 rfl rfl 60 (by decide) zm_200 rfl dX10_image_126 ?_
  refine lv_iload_n hx hb dX10_image_129 rfl (lv_at hl 0 rfl) ?_
  refine lv_aload_n hx hb dX10_image_130 rfl (lv_at hl 1 rfl) ?_
  refine zget hx hb ht inlX10 hown hK hW 0 rfl rfl 9 (by decide) zm_149 rfl dX10_image_131 ?_
  refine lv_iload_n hx hb dX10_image_134 rfl (lv_at hl 0 rfl) ?_
  refine ziald (v := 0) hx hb hK hW 3 rfl (by unfold vp_in; decide) rfl dX10_image_135 ?_
  refine ziast0 hx hb hK hS hW 15 rfl (by unfold vp_in; decide) (zupd0 _) dX10_image_136 (fun H locs hW hS => ?_)
  refine lv_aload_n hx hb dX10_image_137 rfl (lv_at hl 1 rfl) ?_
  refine zget hx hb ht inlX10 hown hK hW 0 rfl rfl 61 (by decide) zm_201 rfl dX10_image_138 ?_
  refine lv_iload_n hx hb dX10_image_141 rfl (lv_at hl 0 rfl) ?_
  refine lv_aload_n hx hb dX10_image_142 rfl (lv_at hl 1 rfl) ?_
  refine zget hx hb ht inlX10 hown hK hW 0 rfl rfl 10 (by decide) zm_150 rfl dX10_image_143 ?_
  refine lv_iload_n hx hb dX10_image_146 rfl (lv_at hl 0 rfl) ?_
  refine ziald (v := 0) hx hb hK hW 4 rfl (by unfold vp_in; decide) rfl dX10_image_147 ?_
  refine ziast0 hx hb hK hS hW 16 rfl (by unfold vp_in; decide) (zupd0 _) dX10_image_148 (fun H locs hW hS => ?_)
  refine lv_aload_n hx hb dX10_image_149 rfl (lv_at hl 1 rfl) ?_
  refine zget hx hb ht inlX10 hown hK hW 0 rfl rfl 62 (by decide) zm_202 rfl dX10_image_150 ?_
  refine lv_iload_n hx hb dX10_image_153 rfl (lv_at hl 0 rfl) ?_
  refine lv_aload_n hx hb dX10_image_154 rfl (lv_at hl 1 rfl) ?_
  refine zget hx hb ht inlX10 hown hK hW 0 rfl rfl 11 (by decide) zm_151 rfl dX10_image_155 ?_
  refine lv_iload_n hx hb dX10_image_158 rfl (lv_at hl 0 rfl) ?_
  refine ziald (v := 0) hx hb hK hW 5 rfl (by unfold vp_in; decide) rfl dX10_image_159 ?_
  refine ziast0 hx hb hK hS hW 17 rfl (by unfold vp_in; decide) (zupd0 _) dX10_image_160 (fun H locs hW hS => ?_)
  refine lv_aload_n hx hb dX10_image_161 rfl (lv_at hl 1 rfl) ?_
  refine zget hx hb ht inlX10 hown hK hW 0 rfl rfl 69 (by decide) zm_209 rfl dX10_image_162 ?_
  refine lv_iload_n hx hb dX10_image_165 rfl (lv_at hl 0 rfl) ?_
  refine lv_aload_n hx hb dX10_image_166 rfl (lv_at hl 1 rfl) ?_
  refine zget hx hb ht inlX10 hown hK hW 0 rfl rfl 13 (by decide) zm_153 rfl dX10_image_167 ?_
  refine lv_iload_n hx hb dX10_image_170 rfl (lv_at hl 0 rfl) ?_
  refine zzald (v := 0) hx hb hK hW 7 rfl (by unfold vp_in; decide) rfl dX10_image_171 ?_
  refine zzast0 hx hb hK hS hW 24 rfl (by unfold vp_in; decide) (zupdB0 _) dX10_image_172 (fun H locs hW hS => ?_)
  refine lv_aload_n hx hb dX10_image_173 rfl (lv_at hl 1 rfl) ?_
  refine zget hx hb ht inlX10 hown hK hW 0 rfl rfl 64 (by decide) zm_204 rfl dX10_image_174 ?_
  refine lv_iload_n hx hb dX10_image_177 rfl (lv_at hl 0 rfl) ?_
  refine lv_aload_n hx hb dX10_image_178 rfl (lv_at hl 1 rfl) ?_
  refine zget hx hb ht inlX10 hown hK hW 0 rfl rfl 38 (by decide) zm_178 rfl dX10_image_179 ?_
  refine lv_iload_n hx hb dX10_image_182 rfl (lv_at hl 0 rfl) ?_
  refine ziald (v := 0) hx hb hK hW 8 rfl (by unfold vp_in; decide) rfl dX10_image_183 ?_
  refine ziast0 hx hb hK hS hW 19 rfl (by unfold vp_in; decide) (zupd0 _) dX10_image_184 (fun H locs hW hS => ?_)
  refine lv_iinc (k := 0) (v := 4) (lv' := [(1, .int 4), (0, .ref a0)]) hx hb dX10_image_185 hl rfl (by decide) (by decide) rfl (fun ls hl => ?_)
  refine lv_goto (tgt := 95) hx hb dX10_image_188 (by decide) ?_
  refine lv_iload_n hx hb dX10_image_95 rfl (lv_at hl 0 rfl) ?_
  refine lv_bipush (v := 7) hx hb dX10_image_96 (by decide) ?_
  refine lv_icmp_ge (tgt := 191) hx hb dX10_image_98 (by decide) (fun c5_ => absurd c5_ (by decide)) (fun c5_ => ?_)
  refine lv_aload_n hx hb dX10_image_101 rfl (lv_at hl 1 rfl) ?_
  refine zget hx hb ht inlX10 hown hK hW 0 rfl rfl 58 (by decide) zm_198 rfl dX10_image_102 ?_
  refine lv_iload_n hx hb dX10_image_105 rfl (lv_at hl 0 rfl) ?_
  refine lv_aload_n hx hb dX10_image_106 rfl (lv_at hl 1 rfl) ?_
  refine zget hx hb ht inlX10 hown hK hW 0 rfl rfl 7 (by decide) zm_147 rfl dX10_image_107 ?_
  refine lv_iload_n hx hb dX10_image_110 rfl (lv_at hl 0 rfl) ?_
  refine ziald (v := 0) hx hb hK hW 1 rfl (by unfold vp_in; decide) rfl dX10_image_111 ?_
  refine ziast0 hx hb hK hS hW 13 rfl (by unfold vp_in; decide) (zupd0 _) dX10_image_112 (fun H locs hW hS => ?_)
  refine lv_aload_n hx hb dX10_image_113 rfl (lv_at hl 1 rfl) ?_
  refine zget hx hb ht inlX10 hown hK hW 0 rfl rfl 59 (by decide) zm_199 rfl dX10_image_114 ?_
  refine lv_iload_n hx hb dX10_image_117 rfl (lv_at hl 0 rfl) ?_
  refine lv_aload_n hx hb dX10_image_118 rfl (lv_at hl 1 rfl) ?_
  refine zget hx hb ht inlX10 hown hK hW 0 rfl rfl 8 (by decide) zm_148 rfl dX10_image_119 ?_
  refine lv_iload_n hx hb dX10_image_122 rfl (lv_at hl 0 rfl) ?_
  refine ziald (v := 0) hx hb hK hW 2 rfl (by unfold vp_in; decide) rfl dX10_image_123 ?_
  refine ziast0 hx hb hK hS hW 14 rfl (by unfold vp_in; decide) (zupd0 _) dX10_image_124 (fun H locs hW hS => ?_)
  refine lv_aload_n hx hb dX10_image_125 rfl (lv_at hl 1 rfl) ?_
  refine zget hx hb ht inlX10 hown hK hW 0 rfl rfl 60 (by decide) zm_200 rfl dX10_image_126 ?_
  refine lv_iload_n hx hb dX10_image_129 rfl (lv_at hl 0 rfl) ?_
  refine lv_aload_n hx hb dX10_image_130 rfl (lv_at hl 1 rfl) ?_
  refine zget hx hb ht inlX10 hown hK hW 0 rfl rfl 9 (by decide) zm_149 rfl dX10_image_131 ?_
  refine lv_iload_n hx hb dX10_image_134 rfl (lv_at hl 0 rfl) ?_
  refine ziald (v := 0) hx hb hK hW 3 rfl (by unfold vp_in; decide) rfl dX10_image_135 ?_
  refine ziast0 hx hb hK hS hW 15 rfl (by unfold vp_in; decide) (zupd0 _) dX10_image_136 (fun H locs hW hS => ?_)
  refine lv_aload_n hx hb dX10_image_137 rfl (lv_at hl 1 rfl) ?_
  refine zget hx hb ht inlX10 hown hK hW 0 rfl rfl 61 (by decide) zm_201 rfl dX10_image_138 ?_
  refine lv_iload_n hx hb dX10_image_141 rfl (lv_at hl 0 rfl) ?_
  refine lv_aload_n hx hb dX10_image_142 rfl (lv_at hl 1 rfl) ?_
  refine zget hx hb ht inlX10 hown hK hW 0 rfl rfl 10 (by decide) zm_150 rfl dX10_image_143 ?_
  refine lv_iload_n hx hb dX10_image_146 rfl (lv_at hl 0 rfl) ?_
  refine ziald (v := 0) hx hb hK hW 4 rfl (by unfold vp_in; decide) rfl dX10_image_147 ?_
  refine ziast0 hx hb hK hS hW 16 rfl (by unfold vp_in; decide) (zupd0 _) dX10_image_148 (fun H locs hW hS => ?_)
  refine lv_aload_n hx hb dX10_image_149 rfl (lv_at hl 1 rfl) ?_
  refine zget hx hb ht inlX10 hown hK hW 0 rfl rfl 62 (by decide) zm_202 rfl dX10_image_150 ?_
  refine lv_iload_n hx hb dX10_image_153 rfl (lv_at hl 0 rfl) ?_
  refine lv_aload_n hx hb dX10_image_154 rfl (lv_at hl 1 rfl) ?_
  refine zget hx hb ht inlX10 hown hK hW 0 rfl rfl 11 (by decide) zm_151 rfl dX10_image_155 ?_
  refine lv_iload_n hx hb dX10_image_158 rfl (lv_at hl 0 rfl) ?_
  refine ziald (v := 0) hx hb hK hW 5 rfl (by unfold vp_in; decide) rfl dX10_image_159 ?_
  refine ziast0 hx hb hK hS hW 17 rfl (by unfold vp_in; decide) (zupd0 _) dX10_image_160 (fun H locs hW hS => ?_)
  refine lv_aload_n hx hb dX10_image_161 rfl (lv_at hl 1 rfl) ?_
  refine zget hx hb ht inlX10 hown hK hW 0 rfl rfl 69 (by decide) zm_209 rfl dX10_image_162 ?_
  refine lv_iload_n hx hb dX10_image_165 rfl (lv_at hl 0 rfl) ?_
  refine lv_aload_n hx hb dX10_image_166 rfl (lv_at hl 1 rfl) ?_
  refine zget hx hb ht inlX10 hown hK hW 0 rfl rfl 13 (by decide) zm_153 rfl dX10_image_167 ?_
  refine lv_iload_n hx hb dX10_image_170 rfl (lv_at hl 0 rfl) ?_
  refine zzald (v := 0) hx hb hK hW 7 rfl (by unfold vp_in; decide) rfl dX10_image_171 ?_
  refine zzast0 hx hb hK hS hW 24 rfl (by unfold vp_in; decide) (zupdB0 _) dX10_image_172 (fun H locs hW hS => ?_)
  refine lv_aload_n hx hb dX10_image_173 rfl (lv_at hl 1 rfl) ?_
  refine zget hx hb ht inlX10 hown hK hW 0 rfl rfl 64 (by decide) zm_204 rfl dX10_image_174 ?_
  refine lv_iload_n hx hb dX10_image_177 rfl (lv_at hl 0 rfl) ?_
  refine lv_aload_n hx hb dX10_image_178 rfl (lv_at hl 1 rfl) ?_
  refine zget hx hb ht inlX10 hown hK hW 0 rfl rfl 38 (by decide) zm_178 rfl dX10_image_179 ?_
  refine lv_iload_n hx hb dX10_image_182 rfl (lv_at hl 0 rfl) ?_
  refine ziald (v := 0) hx hb hK hW 8 rfl (by unfold vp_in; decide) rfl dX10_image_183 ?_
  refine ziast0 hx hb hK hS hW 19 rfl (by unfold vp_in; decide) (zupd0 _) dX10_image_184 (fun H locs hW hS => ?_)
  refine lv_iinc (k := 0) (v := 5) (lv' := [(1, .int 5), (0, .ref a0)]) hx hb dX10_image_185 hl rfl (by decide) (by decide) rfl (fun ls hl => ?_)
  refine lv_goto (tgt := 95) hx hb dX10_image_188 (by decide) ?_
  refine lv_iload_n hx hb dX10_image_95 rfl (lv_at hl 0 rfl) ?_
  refine lv_bipush (v := 7) hx hb dX10_image_96 (by decide) ?_
  refine lv_icmp_ge (tgt := 191) hx hb dX10_image_98 (by decide) (fun c6_ => absurd c6_ (by decide)) (fun c6_ => ?_)
  refine lv_aload_n hx hb dX10_image_101 rfl (lv_at hl 1 rfl) ?_
  refine zget hx hb ht inlX10 hown hK hW 0 rfl rfl 58 (by decide) zm_198 rfl dX10_image_102 ?_
  refine lv_iload_n hx hb dX10_image_105 rfl (lv_at hl 0 rfl) ?_
  refine lv_aload_n hx hb dX10_image_106 rfl (lv_at hl 1 rfl) ?_
  refine zget hx hb ht inlX10 hown hK hW 0 rfl rfl 7 (by decide) zm_147 rfl dX10_image_107 ?_
  refine lv_iload_n hx hb dX10_image_110 rfl (lv_at hl 0 rfl) ?_
  refine ziald (v := 0) hx hb hK hW 1 rfl (by unfold vp_in; decide) rfl dX10_image_111 ?_
  refine ziast0 hx hb hK hS hW 13 rfl (by unfold vp_in; decide) (zupd0 _) dX10_image_112 (fun H locs hW hS => ?_)
  refine lv_aload_n hx hb dX10_image_113 rfl (lv_at hl 1 rfl) ?_
  refine zget hx hb ht inlX10 hown hK hW 0 rfl rfl 59 (by decide) zm_199 rfl dX10_image_114 ?_
  refine lv_iload_n hx hb dX10_image_117 rfl (lv_at hl 0 rfl) ?_
  refine lv_aload_n hx hb dX10_image_118 rfl (lv_at hl 1 rfl) ?_
  refine zget hx hb ht inlX10 hown hK hW 0 rfl rfl 8 (by decide) zm_148 rfl dX10_image_119 ?_
  refine lv_iload_n hx hb dX10_image_122 rfl (lv_at hl 0 rfl) ?_
  refine ziald (v := 0) hx hb hK hW 2 rfl (by unfold vp_in; decide) rfl dX10_image_123 ?_
  refine ziast0 hx hb hK hS hW 14 rfl (by unfold vp_in; decide) (zupd0 _) dX10_image_124 (fun H locs hW hS => ?_)
  refine lv_aload_n hx hb dX10_image_125 rfl (lv_at hl 1 rfl) ?_
  refine zget hx hb ht inlX10 hown hK hW 0 rfl rfl 60 (by decide) zm_200 rfl dX10_image_126 ?_
  refine lv_iload_n hx hb dX10_image_129 rfl (lv_at hl 0 rfl) ?_
  refine lv_aload_n hx hb dX10_image_130 rfl (lv_at hl 1 rfl) ?_
  refine zget hx hb ht inlX10 hown hK hW 0 rfl rfl 9 (by decide) zm_149 rfl dX10_image_131 ?_
  refine lv_iload_n hx hb dX10_image_134 rfl (lv_at hl 0 rfl) ?_
  refine ziald (v := 0) hx hb hK hW 3 rfl (by unfold vp_in; decide) rfl dX10_image_135 ?_
  refine ziast0 hx hb hK hS hW 15 rfl (by unfold vp_in; decide) (zupd0 _) dX10_image_136 (fun H locs hW hS => ?_)
  refine lv_aload_n hx hb dX10_image_137 rfl (lv_at hl 1 rfl) ?_
  refine zget hx hb ht inlX10 hown hK hW 0 rfl rfl 61 (by decide) zm_201 rfl dX10_image_138 ?_
  refine lv_iload_n hx hb dX10_image_141 rfl (lv_at hl 0 rfl) ?_
  refine lv_aload_n hx hb dX10_image_142 rfl (lv_at hl 1 rfl) ?_
  refine zget hx hb ht inlX10 hown hK hW 0 rfl rfl 10 (by decide) zm_150 rfl dX10_image_143 ?_
  refine lv_iload_n hx hb dX10_image_146 rfl (lv_at hl 0 rfl) ?_
  refine ziald (v := 0) hx hb hK hW 4 rfl (by unfold vp_in; decide) rfl dX10_image_147 ?_
  refine ziast0 hx hb hK hS hW 16 rfl (by unfold vp_in; decide) (zupd0 _) dX10_image_148 (fun H locs hW hS => ?_)
  refine lv_aload_n hx hb dX10_image_149 rfl (lv_at hl 1 rfl) ?_
  refine zget hx hb ht inlX10 hown hK hW 0 rfl rfl 62 (by decide) zm_202 rfl dX10_image_150 ?_
  refine lv_iload_n hx hb dX10_image_153 rfl (lv_at hl 0 rfl) ?_
  refine lv_aload_n hx hb dX10_image_154 rfl (lv_at hl 1 rfl) ?_
  refine zget hx hb ht inlX10 hown hK hW 0 rfl rfl 11 (by decide) zm_151 rfl dX10_image_155 ?_
  refine lv_iload_n hx hb dX10_image_158 rfl (lv_at hl 0 rfl) ?_
  refine ziald (v := 0) hx hb hK hW 5 rfl (by unfold vp_in; decide) rfl dX10_image_159 ?_
  refine ziast0 hx hb hK hS hW 17 rfl (by unfold vp_in; decide) (zupd0 _) dX10_image_160 (fun H locs hW hS => ?_)
  refine lv_aload_n hx hb dX10_image_161 rfl (lv_at hl 1 rfl) ?_
  refine zget hx hb ht inlX10 hown hK hW 0 rfl rfl 69 (by decide) zm_209 rfl dX10_image_162 ?_
  refine lv_iload_n hx hb dX10_image_165 rfl (lv_at hl 0 rfl) ?_
  refine lv_aload_n hx hb dX10_image_166 rfl (lv_at hl 1 rfl) ?_
  refine zget hx hb ht inlX10 hown hK hW 0 rfl rfl 13 (by decide) zm_153 rfl dX10_image_167 ?_
  refine lv_iload_n hx hb dX10_image_170 rfl (lv_at hl 0 rfl) ?_
  refine zzald (v := 0) hx hb hK hW 7 rfl (by unfold vp_in; decide) rfl dX10_image_171 ?_
  refine zzast0 hx hb hK hS hW 24 rfl (by unfold vp_in; decide) (zupdB0 _) dX10_image_172 (fun H locs hW hS => ?_)
  refine lv_aload_n hx hb dX10_image_173 rfl (lv_at hl 1 rfl) ?_
  refine zget hx hb ht inlX10 hown hK hW 0 rfl rfl 64 (by decide) zm_204 rfl dX10_image_174 ?_
  refine lv_iload_n hx hb dX10_image_177 rfl (lv_at hl 0 rfl) ?_
  refine lv_aload_n hx hb dX10_image_178 rfl (lv_at hl 1 rfl) ?_
  refine zget hx hb ht inlX10 hown hK hW 0 rfl rfl 38 (by decide) zm_178 rfl dX10_image_179 ?_
  refine lv_iload_n hx hb dX10_image_182 rfl (lv_at hl 0 rfl) ?_
  refine ziald (v := 0) hx hb hK hW 8 rfl (by unfold vp_in; decide) rfl dX10_image_183 ?_
  refine ziast0 hx hb hK hS hW 19 rfl (by unfold vp_in; decide) (zupd0 _) dX10_image_184 (fun H locs hW hS => ?_)
  refine lv_iinc (k := 0) (v := 6) (lv' := [(1, .int 6), (0, .ref a0)]) hx hb dX10_image_185 hl rfl (by decide) (by decide) rfl (fun ls hl => ?_)
  refine lv_goto (tgt := 95) hx hb dX10_image_188 (by decide) ?_
  refine lv_iload_n hx hb dX10_image_95 rfl (lv_at hl 0 rfl) ?_
  refine lv_bipush (v := 7) hx hb dX10_image_96 (by decide) ?_
  refine lv_icmp_ge (tgt := 191) hx hb dX10_image_98 (by decide) (fun c7_ => absurd c7_ (by decide)) (fun c7_ => ?_)
  refine lv_aload_n hx hb dX10_image_101 rfl (lv_at hl 1 rfl) ?_
  refine zget hx hb ht inlX10 hown hK hW 0 rfl rfl 58 (by decide) zm_198 rfl dX10_image_102 ?_
  refine lv_iload_n hx hb dX10_image_105 rfl (lv_at hl 0 rfl) ?_
  refine lv_aload_n hx hb dX10_image_106 rfl (lv_at hl 1 rfl) ?_
  refine zget hx hb ht inlX10 hown hK hW 0 rfl rfl 7 (by decide) zm_147 rfl dX10_image_107 ?_
  refine lv_iload_n hx hb dX10_image_110 rfl (lv_at hl 0 rfl) ?_
  refine ziald (v := 0) hx hb hK hW 1 rfl (by unfold vp_in; decide) rfl dX10_image_111 ?_
  refine ziast0 hx hb hK hS hW 13 rfl (by unfold vp_in; decide) (zupd0 _) dX10_image_112 (fun H locs hW hS => ?_)
  refine lv_aload_n hx hb dX10_image_113 rfl (lv_at hl 1 rfl) ?_
  refine zget hx hb ht inlX10 hown hK hW 0 rfl rfl 59 (by decide) zm_199 rfl dX10_image_114 ?_
  refine lv_iload_n hx hb dX10_image_117 rfl (lv_at hl 0 rfl) ?_
  refine lv_aload_n hx hb dX10_image_118 rfl (lv_at hl 1 rfl) ?_
  refine zget hx hb ht inlX10 hown hK hW 0 rfl rfl 8 (by decide) zm_148 rfl dX10_image_119 ?_
  refine lv_iload_n hx hb dX10_image_122 rfl (lv_at hl 0 rfl) ?_
  refine ziald (v := 0) hx hb hK hW 2 rfl (by unfold vp_in; decide) rfl dX10_image_123 ?_
  refine ziast0 hx hb hK hS hW 14 rfl (by unfold vp_in; decide) (zupd0 _) dX10_image_124 (fun H locs hW hS => ?_)
  refine lv_aload_n hx hb dX10_image_125 rfl (lv_at hl 1 rfl) ?_
  refine zget hx hb ht inlX10 hown hK hW 0 rfl rfl 60 (by decide) zm_200 rfl dX10_image_126 ?_
  refine lv_iload_n hx hb dX10_image_129 rfl (lv_at hl 0 rfl) ?_
  refine lv_aload_n hx hb dX10_image_130 rfl (lv_at hl 1 rfl) ?_
  refine zget hx hb ht inlX10 hown hK hW 0 rfl rfl 9 (by decide) zm_149 rfl dX10_image_131 ?_
  refine lv_iload_n hx hb dX10_image_134 rfl (lv_at hl 0 rfl) ?_
  refine ziald (v := 0) hx hb hK hW 3 rfl (by unfold vp_in; decide) rfl dX10_image_135 ?_
  refine ziast0 hx hb hK hS hW 15 rfl (by unfold vp_in; decide) (zupd0 _) dX10_image_136 (fun H locs hW hS => ?_)
  refine lv_aload_n hx hb dX10_image_137 rfl (lv_at hl 1 rfl) ?_
  refine zget hx hb ht inlX10 hown hK hW 0 rfl rfl 61 (by decide) zm_201 rfl dX10_image_138 ?_
  refine lv_iload_n hx hb dX10_image_141 rfl (lv_at hl 0 rfl) ?_
  refine lv_aload_n hx hb dX10_image_142 rfl (lv_at hl 1 rfl) ?_
  refine zget hx hb ht inlX10 hown hK hW 0 rfl rfl 10 (by decide) zm_150 rfl dX10_image_143 ?_
  refine lv_iload_n hx hb dX10_image_146 rfl (lv_at hl 0 rfl) ?_
  refine ziald (v := 0) hx hb hK hW 4 rfl (by unfold vp_in; decide) rfl dX10_image_147 ?_
  refine ziast0 hx hb hK hS hW 16 rfl (by unfold vp_in; decide) (zupd0 _) dX10_image_148 (fun H locs hW hS => ?_)
  refine lv_aload_n hx hb dX10_image_149 rfl (lv_at hl 1 rfl) ?_
  refine zget hx hb ht inlX10 hown hK hW 0 rfl rfl 62 (by decide) zm_202 rfl dX10_image_150 ?_
  refine lv_iload_n hx hb dX10_image_153 rfl (lv_at hl 0 rfl) ?_
  refine lv_aload_n hx hb dX10_image_154 rfl (lv_at hl 1 rfl) ?_
  refine zget hx hb ht inlX10 hown hK hW 0 rfl rfl 11 (by decide) zm_151 rfl dX10_image_155 ?_
  refine lv_iload_n hx hb dX10_image_158 rfl (lv_at hl 0 rfl) ?_
  refine ziald (v := 0) hx hb hK hW 5 rfl (by unfold vp_in; decide) rfl dX10_image_159 ?_
  refine ziast0 hx hb hK hS hW 17 rfl (by unfold vp_in; decide) (zupd0 _) dX10_image_160 (fun H locs hW hS => ?_)
  refine lv_aload_n hx hb dX10_image_161 rfl (lv_at hl 1 rfl) ?_
  refine zget hx hb ht inlX10 hown hK hW 0 rfl rfl 69 (by decide) zm_209 rfl dX10_image_162 ?_
  refine lv_iload_n hx hb dX10_image_165 rfl (lv_at hl 0 rfl) ?_
  refine lv_aload_n hx hb dX10_image_166 rfl (lv_at hl 1 rfl) ?_
  refine zget hx hb ht inlX10 hown hK hW 0 rfl rfl 13 (by decide) zm_153 rfl dX10_image_167 ?_
  refine lv_iload_n hx hb dX10_image_170 rfl (lv_at hl 0 rfl) ?_
  refine zzald (v := 0) hx hb hK hW 7 rfl (by unfold vp_in; decide) rfl dX10_image_171 ?_
  refine zzast0 hx hb hK hS hW 24 rfl (by unfold vp_in; decide) (zupdB0 _) dX10_image_172 (fun H locs hW hS => ?_)
  refine lv_aload_n hx hb dX10_image_173 rfl (lv_at hl 1 rfl) ?_
  refine zget hx hb ht inlX10 hown hK hW 0 rfl rfl 64 (by decide) zm_204 rfl dX10_image_174 ?_
  refine lv_iload_n hx hb dX10_image_177 rfl (lv_at hl 0 rfl) ?_
  refine lv_aload_n hx hb dX10_image_178 rfl (lv_at hl 1 rfl) ?_
  refine zget hx hb ht inlX10 hown hK hW 0 rfl rfl 38 (by decide) zm_178 rfl dX10_image_179 ?_
  refine lv_iload_n hx hb dX10_image_182 rfl (lv_at hl 0 rfl) ?_
  refine ziald (v := 0) hx hb hK hW 8 rfl (by unfold vp_in; decide) rfl dX10_image_183 ?_
  refine ziast0 hx hb hK hS hW 19 rfl (by unfold vp_in; decide) (zupd0 _) dX10_image_184 (fun H locs hW hS => ?_)
  refine lv_iinc (k := 0) (v := 7) (lv' := [(1, .int 7), (0, .ref a0)]) hx hb dX10_image_185 hl rfl (by decide) (by decide) rfl (fun ls hl => ?_)
  refine lv_goto (tgt := 95) hx hb dX10_image_188 (by decide) ?_
  refine lv_iload_n hx hb dX10_image_95 rfl (lv_at hl 0 rfl) ?_
  refine lv_bipush (v := 7) hx hb dX10_image_96 (by decide) ?_
  refine lv_icmp_ge (tgt := 191) hx hb dX10_image_98 (by decide) (fun c8_ => ?_) (fun c8_ => absurd (by decide) c8_)
  refine lv_iconst (v := 0) hx hb dX10_image_191 (by decide) ?_
  refine lv_istore_n (lv' := [(1, .int 0), (0, .ref a0)]) hx hb dX10_image_192 rfl hl (by decide) rfl (fun ls hl => ?_)
  refine lv_iload_n hx hb dX10_image_193 rfl (lv_at hl 0 rfl) ?_
  refine lv_bipush (v := 28) hx hb dX10_image_194 (by decide) ?_
  refine lv_icmp_ge (tgt := 217) hx hb dX10_image_196 (by decide) (fun c9_ => absurd c9_ (by decide)) (fun c9_ => ?_)
  refine lv_aload_n hx hb dX10_image_199 rfl (lv_at hl 1 rfl) ?_
  refine zget hx hb ht inlX10 hown hK hW 0 rfl rfl 63 (by decide) zm_203 rfl dX10_image_200 ?_
  refine lv_iload_n hx hb dX10_image_203 rfl (lv_at hl 0 rfl) ?_
  refine lv_aload_n hx hb dX10_image_204 rfl (lv_at hl 1 rfl) ?_
  refine zget hx hb ht inlX10 hown hK hW 0 rfl rfl 12 (by decide) zm_152 rfl dX10_image_205 ?_
  refine lv_iload_n hx hb dX10_image_208 rfl (lv_at hl 0 rfl) ?_
  refine ziald (v := 0) hx hb hK hW 6 rfl (by unfold vp_in; decide) rfl dX10_image_209 ?_
  refine ziast0 hx hb hK hS hW 18 rfl (by unfold vp_in; decide) (zupd0 _) dX10_image_210 (fun H locs hW hS => ?_)
  refine lv_iinc (k := 0) (v := 1) (lv' := [(1, .int 1), (0, .ref a0)]) hx hb dX10_image_211 hl rfl (by decide) (by decide) rfl (fun ls hl => ?_)
  refine lv_goto (tgt := 193) hx hb dX10_image_214 (by decide) ?_
  refine lv_iload_n hx hb dX10_image_193 rfl (lv_at hl 0 rfl) ?_
  refine lv_bipush (v := 28) hx hb dX10_image_194 (by decide) ?_
  refine lv_icmp_ge (tgt := 217) hx hb dX10_image_196 (by decide) (fun c10_ => absurd c10_ (by decide)) (fun c10_ => ?_)
  refine lv_aload_n hx hb dX10_image_199 rfl (lv_at hl 1 rfl) ?_
  refine zget hx hb ht inlX10 hown hK hW 0 rfl rfl 63 (by decide) zm_203 rfl dX10_image_200 ?_
  refine lv_iload_n hx hb dX10_image_203 rfl (lv_at hl 0 rfl) ?_
  refine lv_aload_n hx hb dX10_image_204 rfl (lv_at hl 1 rfl) ?_
  refine zget hx hb ht inlX10 hown hK hW 0 rfl rfl 12 (by decide) zm_152 rfl dX10_image_205 ?_
  refine lv_iload_n hx hb dX10_image_208 rfl (lv_at hl 0 rfl) ?_
  refine ziald (v := 0) hx hb hK hW 6 rfl (by unfold vp_in; decide) rfl dX10_image_209 ?_
  refine ziast0 hx hb hK hS hW 18 rfl (by unfold vp_in; decide) (zupd0 _) dX10_image_210 (fun H locs hW hS => ?_)
  refine lv_iinc (k := 0) (v := 2) (lv' := [(1, .int 2), (0, .ref a0)]) hx hb dX10_image_211 hl rfl (by decide) (by decide) rfl (fun ls hl => ?_)
  refine lv_goto (tgt := 193) hx hb dX10_image_214 (by decide) ?_
  refine lv_iload_n hx hb dX10_image_193 rfl (lv_at hl 0 rfl) ?_
  refine lv_bipush (v := 28) hx hb dX10_image_194 (by decide) ?_
  refine lv_icmp_ge (tgt := 217) hx hb dX10_image_196 (by decide) (fun c11_ => absurd c11_ (by decide)) (fun c11_ => ?_)
  refine lv_aload_n hx hb dX10_image_199 rfl (lv_at hl 1 rfl) ?_
  refine zget hx hb ht inlX10 hown hK hW 0 rfl rfl 63 (by decide) zm_203 rfl dX10_image_200 ?_
  refine lv_iload_n hx hb dX10_image_203 rfl (lv_at hl 0 rfl) ?_
  refine lv_aload_n hx hb dX10_image_204 rfl (lv_at hl 1 rfl) ?_
  refine zget hx hb ht inlX10 hown hK hW 0 rfl rfl 12 (by decide) zm_152 rfl dX10_image_205 ?_
  refine lv_iload_n hx hb dX10_image_208 rfl (lv_at hl 0 rfl) ?_
  refine ziald (v := 0) hx hb hK hW 6 rfl (by unfold vp_in; decide) rfl dX10_image_209 ?_
  refine ziast0 hx hb hK hS hW 18 rfl (by unfold vp_in; decide) (zupd0 _) dX10_image_210 (fun H locs hW hS => ?_)
  refine lv_iinc (k := 0) (v := 3) (lv' := [(1, .int 3), (0, .ref a0)]) hx hb dX10_image_211 hl rfl (by decide) (by decide) rfl (fun ls hl => ?_)
  refine lv_goto (tgt := 193) hx hb dX10_image_214 (by decide) ?_
  refine lv_iload_n hx hb dX10_image_193 rfl (lv_at hl 0 rfl) ?_
  refine lv_bipush (v := 28) hx hb dX10_image_194 (by decide) ?_
  refine lv_icmp_ge (tgt := 217) hx hb dX10_image_196 (by decide) (fun c12_ => absurd c12_ (by decide)) (fun c12_ => ?_)
  refine lv_aload_n hx hb dX10_image_199 rfl (lv_at hl 1 rfl) ?_
  refine zget hx hb ht inlX10 hown hK hW 0 rfl rfl 63 (by decide) zm_203 rfl dX10_image_200 ?_
  refine lv_iload_n hx hb dX10_image_203 rfl (lv_at hl 0 rfl) ?_
  refine lv_aload_n hx hb dX10_image_204 rfl (lv_at hl 1 rfl) ?_
  refine zget hx hb ht inlX10 hown hK hW 0 rfl rfl 12 (by decide) zm_152 rfl dX10_image_205 ?_
  refine lv_iload_n hx hb dX10_image_208 rfl (lv_at hl 0 rfl) ?_
  refine ziald (v := 0) hx hb hK hW 6 rfl (by unfold vp_in; decide) rfl dX10_image_209 ?_
  refine ziast0 hx hb hK hS hW 18 rfl (by unfold vp_in; decide) (zupd0 _) dX10_image_210 (fun H locs hW hS => ?_)
  refine lv_iinc (k := 0) (v := 4) (lv' := [(1, .int 4), (0, .ref a0)]) hx hb dX10_image_211 hl rfl (by decide) (by decide) rfl (fun ls hl => ?_)
  refine lv_goto (tgt := 193) hx hb dX10_image_214 (by decide) ?_
  refine lv_iload_n hx hb dX10_image_193 rfl (lv_at hl 0 rfl) ?_
  refine lv_bipush (v := 28) hx hb dX10_image_194 (by decide) ?_
  refine lv_icmp_ge (tgt := 217) hx hb dX10_image_196 (by decide) (fun c13_ => absurd c13_ (by decide)) (fun c13_ => ?_)
  refine lv_aload_n hx hb dX10_image_199 rfl (lv_at hl 1 rfl) ?_
  refine zget hx hb ht inlX10 hown hK hW 0 rfl rfl 63 (by decide) zm_203 rfl dX10_image_200 ?_
  refine lv_iload_n hx hb dX10_image_203 rfl (lv_at hl 0 rfl) ?_
  refine lv_aload_n hx hb dX10_image_204 rfl (lv_at hl 1 rfl) ?_
  refine zget hx hb ht inlX10 hown hK hW 0 rfl rfl 12 (by decide) zm_152 rfl dX10_image_205 ?_
  refine lv_iload_n hx hb dX10_image_208 rfl (lv_at hl 0 rfl) ?_
  refine ziald (v := 0) hx hb hK hW 6 rfl (by unfold vp_in; decide) rfl dX10_image_209 ?_
  refine ziast0 hx hb hK hS hW 18 rfl (by unfold vp_in; decide) (zupd0 _) dX10_image_210 (fun H locs hW hS => ?_)
  refine lv_iinc (k := 0) (v := 5) (lv' := [(1, .int 5), (0, .ref a0)]) hx hb dX10_image_211 hl rfl (by decide) (by decide) rfl (fun ls hl => ?_)
  refine lv_goto (tgt := 193) hx hb dX10_image_214 (by decide) ?_
  refine lv_iload_n hx hb dX10_image_193 rfl (lv_at hl 0 rfl) ?_
  refine lv_bipush (v := 28) hx hb dX10_image_194 (by decide) ?_
  refine lv_icmp_ge (tgt := 217) hx hb dX10_image_196 (by decide) (fun c14_ => absurd c14_ (by decide)) (fun c14_ => ?_)
  refine lv_aload_n hx hb dX10_image_199 rfl (lv_at hl 1 rfl) ?_
  refine zget hx hb ht inlX10 hown hK hW 0 rfl rfl 63 (by decide) zm_203 rfl dX10_image_200 ?_
  refine lv_iload_n hx hb dX10_image_203 rfl (lv_at hl 0 rfl) ?_
  refine lv_aload_n hx hb dX10_image_204 rfl (lv_at hl 1 rfl) ?_
  refine zget hx hb ht inlX10 hown hK hW 0 rfl rfl 12 (by decide) zm_152 rfl dX10_image_205 ?_
  refine lv_iload_n hx hb dX10_image_208 rfl (lv_at hl 0 rfl) ?_
  refine ziald (v := 0) hx hb hK hW 6 rfl (by unfold vp_in; decide) rfl dX10_image_209 ?_
  refine ziast0 hx hb hK hS hW 18 rfl (by unfold vp_in; decide) (zupd0 _) dX10_image_210 (fun H locs hW hS => ?_)
  refine lv_iinc (k := 0) (v := 6) (lv' := [(1, .int 6), (0, .ref a0)]) hx hb dX10_image_211 hl rfl (by decide) (by decide) rfl (fun ls hl => ?_)
  refine lv_goto (tgt := 193) hx hb dX10_image_214 (by decide) ?_
  refine lv_iload_n hx hb dX10_image_193 rfl (lv_at hl 0 rfl) ?_
  refine lv_bipush (v := 28) hx hb dX10_image_194 (by decide) ?_
  refine lv_icmp_ge (tgt := 217) hx hb dX10_image_196 (by decide) (fun c15_ => absurd c15_ (by decide)) (fun c15_ => ?_)
  refine lv_aload_n hx hb dX10_image_199 rfl (lv_at hl 1 rfl) ?_
  refine zget hx hb ht inlX10 hown hK hW 0 rfl rfl 63 (by decide) zm_203 rfl dX10_image_200 ?_
  refine lv_iload_n hx hb dX10_image_203 rfl (lv_at hl 0 rfl) ?_
  refine lv_aload_n hx hb dX10_image_204 rfl (lv_at hl 1 rfl) ?_
  refine zget hx hb ht inlX10 hown hK hW 0 rfl rfl 12 (by decide) zm_152 rfl dX10_image_205 ?_
  refine lv_iload_n hx hb dX10_image_208 rfl (lv_at hl 0 rfl) ?_
  refine ziald (v := 0) hx hb hK hW 6 rfl (by unfold vp_in; decide) rfl dX10_image_209 ?_
  refine ziast0 hx hb hK hS hW 18 rfl (by unfold vp_in; decide) (zupd0 _) dX10_image_210 (fun H locs hW hS => ?_)
  refine lv_iinc (k := 0) (v := 7) (lv' := [(1, .int 7), (0, .ref a0)]) hx hb dX10_image_211 hl rfl (by decide) (by decide) rfl (fun ls hl => ?_)
  refine lv_goto (tgt := 193) hx hb dX10_image_214 (by decide) ?_
  refine lv_iload_n hx hb dX10_image_193 rfl (lv_at hl 0 rfl) ?_
  refine lv_bipush (v := 28) hx hb dX10_image_194 (by decide) ?_
  refine lv_icmp_ge (tgt := 217) hx hb dX10_image_196 (by decide) (fun c16_ => absurd c16_ (by decide)) (fun c16_ => ?_)
  refine lv_aload_n hx hb dX10_image_199 rfl (lv_at hl 1 rfl) ?_
  refine zget hx hb ht inlX10 hown hK hW 0 rfl rfl 63 (by decide) zm_203 rfl dX10_image_200 ?_
  refine lv_iload_n hx hb dX10_image_203 rfl (lv_at hl 0 rfl) ?_
  refine lv_aload_n hx hb dX10_image_204 rfl (lv_at hl 1 rfl) ?_
  refine zget hx hb ht inlX10 hown hK hW 0 rfl rfl 12 (by decide) zm_152 rfl dX10_image_205 ?_
  refine lv_iload_n hx hb dX10_image_208 rfl (lv_at hl 0 rfl) ?_
  refine ziald (v := 0) hx hb hK hW 6 rfl (by unfold vp_in; decide) rfl dX10_image_209 ?_
  refine ziast0 hx hb hK hS hW 18 rfl (by unfold vp_in; decide) (zupd0 _) dX10_image_210 (fun H locs hW hS => ?_)
  refine lv_iinc (k := 0) (v := 8) (lv' := [(1, .int 8), (0, .ref a0)]) hx hb dX10_image_211 hl rfl (by decide) (by decide) rfl (fun ls hl => ?_)
  refine lv_goto (tgt := 193) hx hb dX10_image_214 (by decide) ?_
  refine lv_iload_n hx hb dX10_image_193 rfl (lv_at hl 0 rfl) ?_
  refine lv_bipush (v := 28) hx hb dX10_image_194 (by decide) ?_
  refine lv_icmp_ge (tgt := 217) hx hb dX10_image_196 (by decide) (fun c17_ => absurd c17_ (by decide)) (fun c17_ => ?_)
  refine lv_aload_n hx hb dX10_image_199 rfl (lv_at hl 1 rfl) ?_
  refine zget hx hb ht inlX10 hown hK hW 0 rfl rfl 63 (by decide) zm_203 rfl dX10_image_200 ?_
  refine lv_iload_n hx hb dX10_image_203 rfl (lv_at hl 0 rfl) ?_
  refine lv_aload_n hx hb dX10_image_204 rfl (lv_at hl 1 rfl) ?_
  refine zget hx hb ht inlX10 hown hK hW 0 rfl rfl 12 (by decide) zm_152 rfl dX10_image_205 ?_
  refine lv_iload_n hx hb dX10_image_208 rfl (lv_at hl 0 rfl) ?_
  refine ziald (v := 0) hx hb hK hW 6 rfl (by unfold vp_in; decide) rfl dX10_image_209 ?_
  refine ziast0 hx hb hK hS hW 18 rfl (by unfold vp_in; decide) (zupd0 _) dX10_image_210 (fun H locs hW hS => ?_)
  refine lv_iinc (k := 0) (v := 9) (lv' := [(1, .int 9), (0, .ref a0)]) hx hb dX10_image_211 hl rfl (by decide) (by decide) rfl (fun ls hl => ?_)
  refine lv_goto (tgt := 193) hx hb dX10_image_214 (by decide) ?_
  refine lv_iload_n hx hb dX10_image_193 rfl (lv_at hl 0 rfl) ?_
  refine lv_bipush (v := 28) hx hb dX10_image_194 (by decide) ?_
  refine lv_icmp_ge (tgt := 217) hx hb dX10_image_196 (by decide) (fun c18_ => absurd c18_ (by decide)) (fun c18_ => ?_)
  refine lv_aload_n hx hb dX10_image_199 rfl (lv_at hl 1 rfl) ?_
  refine zget hx hb ht inlX10 hown hK hW 0 rfl rfl 63 (by decide) zm_203 rfl dX10_image_200 ?_
  refine lv_iload_n hx hb dX10_image_203 rfl (lv_at hl 0 rfl) ?_
  refine lv_aload_n hx hb dX10_image_204 rfl (lv_at hl 1 rfl) ?_
  refine zget hx hb ht inlX10 hown hK hW 0 rfl rfl 12 (by decide) zm_152 rfl dX10_image_205 ?_
  refine lv_iload_n hx hb dX10_image_208 rfl (lv_at hl 0 rfl) ?_
  refine ziald (v := 0) hx hb hK hW 6 rfl (by unfold vp_in; decide) rfl dX10_image_209 ?_
  refine ziast0 hx hb hK hS hW 18 rfl (by unfold vp_in; decide) (zupd0 _) dX10_image_210 (fun H locs hW hS => ?_)
  refine lv_iinc (k := 0) (v := 10) (lv' := [(1, .int 10), (0, .ref a0)]) hx hb dX10_image_211 hl rfl (by decide) (by decide) rfl (fun ls hl => ?_)
  refine lv_goto (tgt := 193) hx hb dX10_image_214 (by decide) ?_
  refine lv_iload_n hx hb dX10_image_193 rfl (lv_at hl 0 rfl) ?_
  refine lv_bipush (v := 28) hx hb dX10_image_194 (by decide) ?_
  refine lv_icmp_ge (tgt := 217) hx hb dX10_image_196 (by decide) (fun c19_ => absurd c19_ (by decide)) (fun c19_ => ?_)
  refine lv_aload_n hx hb dX10_image_199 rfl (lv_at hl 1 rfl) ?_
  refine zget hx hb ht inlX10 hown hK hW 0 rfl rfl 63 (by decide) zm_203 rfl dX10_image_200 ?_
  refine lv_iload_n hx hb dX10_image_203 rfl (lv_at hl 0 rfl) ?_
  refine lv_aload_n hx hb dX10_image_204 rfl (lv_at hl 1 rfl) ?_
  refine zget hx hb ht inlX10 hown hK hW 0 rfl rfl 12 (by decide) zm_152 rfl dX10_image_205 ?_
  refine lv_iload_n hx hb dX10_image_208 rfl (lv_at hl 0 rfl) ?_
  refine ziald (v := 0) hx hb hK hW 6 rfl (by unfold vp_in; decide) rfl dX10_image_209 ?_
  refine ziast0 hx hb hK hS hW 18 rfl (by unfold vp_in; decide) (zupd0 _) dX10_image_210 (fun H locs hW hS => ?_)
  refine lv_iinc (k := 0) (v := 11) (lv' := [(1, .int 11), (0, .ref a0)]) hx hb dX10_image_211 hl rfl (by decide) (by decide) rfl (fun ls hl => ?_)
  refine lv_goto (tgt := 193) hx hb dX10_image_214 (by decide) ?_
  refine lv_iload_n hx hb dX10_image_193 rfl (lv_at hl 0 rfl) ?_
  refine lv_bipush (v := 28) hx hb dX10_image_194 (by decide) ?_
  refine lv_icmp_ge (tgt := 217) hx hb dX10_image_196 (by decide) (fun c20_ => absurd c20_ (by decide)) (fun c20_ => ?_)
  refine lv_aload_n hx hb dX10_image_199 rfl (lv_at hl 1 rfl) ?_
  refine zget hx hb ht inlX10 hown hK hW 0 rfl rfl 63 (by decide) zm_203 rfl dX10_image_200 ?_
  refine lv_iload_n hx hb dX10_image_203 rfl (lv_at hl 0 rfl) ?_
  refine lv_aload_n hx hb dX10_image_204 rfl (lv_at hl 1 rfl) ?_
  refine zget hx hb ht inlX10 hown hK hW 0 rfl rfl 12 (by decide) zm_152 rfl dX10_image_205 ?_
  refine lv_iload_n hx hb dX10_image_208 rfl (lv_at hl 0 rfl) ?_
  refine ziald (v := 0) hx hb hK hW 6 rfl (by unfold vp_in; decide) rfl dX10_image_209 ?_
  refine ziast0 hx hb hK hS hW 18 rfl (by unfold vp_in; decide) (zupd0 _) dX10_image_210 (fun H locs hW hS => ?_)
  refine lv_iinc (k := 0) (v := 12) (lv' := [(1, .int 12), (0, .ref a0)]) hx hb dX10_image_211 hl rfl (by decide) (by decide) rfl (fun ls hl => ?_)
  refine lv_goto (tgt := 193) hx hb dX10_image_214 (by decide) ?_
  refine lv_iload_n hx hb dX10_image_193 rfl (lv_at hl 0 rfl) ?_
  refine lv_bipush (v := 28) hx hb dX10_image_194 (by decide) ?_
  refine lv_icmp_ge (tgt := 217) hx hb dX10_image_196 (by decide) (fun c21_ => absurd c21_ (by decide)) (fun c21_ => ?_)
  refine lv_aload_n hx hb dX10_image_199 rfl (lv_at hl 1 rfl) ?_
  refine zget hx hb ht inlX10 hown hK hW 0 rfl rfl 63 (by decide) zm_203 rfl dX10_image_200 ?_
  refine lv_iload_n hx hb dX10_image_203 rfl (lv_at hl 0 rfl) ?_
  refine lv_aload_n hx hb dX10_image_204 rfl (lv_at hl 1 rfl) ?_
  refine zget hx hb ht inlX10 hown hK hW 0 rfl rfl 12 (by decide) zm_152 rfl dX10_image_205 ?_
  refine lv_iload_n hx hb dX10_image_208 rfl (lv_at hl 0 rfl) ?_
  refine ziald (v := 0) hx hb hK hW 6 rfl (by unfold vp_in; decide) rfl dX10_image_209 ?_
  refine ziast0 hx hb hK hS hW 18 rfl (by unfold vp_in; decide) (zupd0 _) dX10_image_210 (fun H locs hW hS => ?_)
  refine lv_iinc (k := 0) (v := 13) (lv' := [(1, .int 13), (0, .ref a0)]) hx hb dX10_image_211 hl rfl (by decide) (by decide) rfl (fun ls hl => ?_)
  refine lv_goto (tgt := 193) hx hb dX10_image_214 (by decide) ?_
  refine lv_iload_n hx hb dX10_image_193 rfl (lv_at hl 0 rfl) ?_
  refine lv_bipush (v := 28) hx hb dX10_image_194 (by decide) ?_
  refine lv_icmp_ge (tgt := 217) hx hb dX10_image_196 (by decide) (fun c22_ => absurd c22_ (by decide)) (fun c22_ => ?_)
  refine lv_aload_n hx hb dX10_image_199 rfl (lv_at hl 1 rfl) ?_
  refine zget hx hb ht inlX10 hown hK hW 0 rfl rfl 63 (by decide) zm_203 rfl dX10_image_200 ?_
  refine lv_iload_n hx hb dX10_image_203 rfl (lv_at hl 0 rfl) ?_
  refine lv_aload_n hx hb dX10_image_204 rfl (lv_at hl 1 rfl) ?_
  refine zget hx hb ht inlX10 hown hK hW 0 rfl rfl 12 (by decide) zm_152 rfl dX10_image_205 ?_
  refine lv_iload_n hx hb dX10_image_208 rfl (lv_at hl 0 rfl) ?_
  refine ziald (v := 0) hx hb hK hW 6 rfl (by unfold vp_in; decide) rfl dX10_image_209 ?_
  refine ziast0 hx hb hK hS hW 18 rfl (by unfold vp_in; decide) (zupd0 _) dX10_image_210 (fun H locs hW hS => ?_)
  refine lv_iinc (k := 0) (v := 14) (lv' := [(1, .int 14), (0, .ref a0)]) hx hb dX10_image_211 hl rfl (by decide) (by decide) rfl (fun ls hl => ?_)
  refine lv_goto (tgt := 193) hx hb dX10_image_214 (by decide) ?_
  refine lv_iload_n hx hb dX10_image_193 rfl (lv_at hl 0 rfl) ?_
  refine lv_bipush (v := 28) hx hb dX10_image_194 (by decide) ?_
  refine lv_icmp_ge (tgt := 217) hx hb dX10_image_196 (by decide) (fun c23_ => absurd c23_ (by decide)) (fun c23_ => ?_)
  refine lv_aload_n hx hb dX10_image_199 rfl (lv_at hl 1 rfl) ?_
  refine zget hx hb ht inlX10 hown hK hW 0 rfl rfl 63 (by decide) zm_203 rfl dX10_image_200 ?_
  refine lv_iload_n hx hb dX10_image_203 rfl (lv_at hl 0 rfl) ?_
  refine lv_aload_n hx hb dX10_image_204 rfl (lv_at hl 1 rfl) ?_
  refine zget hx hb ht inlX10 hown hK hW 0 rfl rfl 12 (by decide) zm_152 rfl dX10_image_205 ?_
  refine lv_iload_n hx hb dX10_image_208 rfl (lv_at hl 0 rfl) ?_
  refine ziald (v := 0) hx hb hK hW 6 rfl (by unfold vp_in; decide) rfl dX10_image_209 ?_
  refine ziast0 hx hb hK hS hW 18 rfl (by unfold vp_in; decide) (zupd0 _) dX10_image_210 (fun H locs hW hS => ?_)
  refine lv_iinc (k := 0) (v := 15) (lv' := [(1, .int 15), (0, .ref a0)]) hx hb dX10_image_211 hl rfl (by decide) (by decide) rfl (fun ls hl => ?_)
  refine lv_goto (tgt := 193) hx hb dX10_image_214 (by decide) ?_
  refine lv_iload_n hx hb dX10_image_193 rfl (lv_at hl 0 rfl) ?_
  refine lv_bipush (v := 28) hx hb dX10_image_194 (by decide) ?_
  refine lv_icmp_ge (tgt := 217) hx hb dX10_image_196 (by decide) (fun c24_ => absurd c24_ (by decide)) (fun c24_ => ?_)
  refine lv_aload_n hx hb dX10_image_199 rfl (lv_at hl 1 rfl) ?_
  refine zget hx hb ht inlX10 hown hK hW 0 rfl rfl 63 (by decide) zm_203 rfl dX10_image_200 ?_
  refine lv_iload_n hx hb dX10_image_203 rfl (lv_at hl 0 rfl) ?_
  refine lv_aload_n hx hb dX10_image_204 rfl (lv_at hl 1 rfl) ?_
  refine zget hx hb ht inlX10 hown hK hW 0 rfl rfl 12 (by decide) zm_152 rfl dX10_image_205 ?_
  refine lv_iload_n hx hb dX10_image_208 rfl (lv_at hl 0 rfl) ?_
  refine ziald (v := 0) hx hb hK hW 6 rfl (by unfold vp_in; decide) rfl dX10_image_209 ?_
  refine ziast0 hx hb hK hS hW 18 rfl (by unfold vp_in; decide) (zupd0 _) dX10_image_210 (fun H locs hW hS => ?_)
  refine lv_iinc (k := 0) (v := 16) (lv' := [(1, .int 16), (0, .ref a0)]) hx hb dX10_image_211 hl rfl (by decide) (by decide) rfl (fun ls hl => ?_)
  refine lv_goto (tgt := 193) hx hb dX10_image_214 (by decide) ?_
  refine lv_iload_n hx hb dX10_image_193 rfl (lv_at hl 0 rfl) ?_
  refine lv_bipush (v := 28) hx hb dX10_image_194 (by decide) ?_
  refine lv_icmp_ge (tgt := 217) hx hb dX10_image_196 (by decide) (fun c25_ => absurd c25_ (by decide)) (fun c25_ => ?_)
  refine lv_aload_n hx hb dX10_image_199 rfl (lv_at hl 1 rfl) ?_
  refine zget hx hb ht inlX10 hown hK hW 0 rfl rfl 63 (by decide) zm_203 rfl dX10_image_200 ?_
  refine lv_iload_n hx hb dX10_image_203 rfl (lv_at hl 0 rfl) ?_
  refine lv_aload_n hx hb dX10_image_204 rfl (lv_at hl 1 rfl) ?_
  refine zget hx hb ht inlX10 hown hK hW 0 rfl rfl 12 (by decide) zm_152 rfl dX10_image_205 ?_
  refine lv_iload_n hx hb dX10_image_208 rfl (lv_at hl 0 rfl) ?_
  refine ziald (v := 0) hx hb hK hW 6 rfl (by unfold vp_in; decide) rfl dX10_image_209 ?_
  refine ziast0 hx hb hK hS hW 18 rfl (by unfold vp_in; decide) (zupd0 _) dX10_image_210 (fun H locs hW hS => ?_)
  refine lv_iinc (k := 0) (v := 17) (lv' := [(1, .int 17), (0, .ref a0)]) hx hb dX10_image_211 hl rfl (by decide) (by decide) rfl (fun ls hl => ?_)
  refine lv_goto (tgt := 193) hx hb dX10_image_214 (by decide) ?_
  refine lv_iload_n hx hb dX10_image_193 rfl (lv_at hl 0 rfl) ?_
  refine lv_bipush (v := 28) hx hb dX10_image_194 (by decide) ?_
  refine lv_icmp_ge (tgt := 217) hx hb dX10_image_196 (by decide) (fun c26_ => absurd c26_ (by decide)) (fun c26_ => ?_)
  refine lv_aload_n hx hb dX10_image_199 rfl (lv_at hl 1 rfl) ?_
  refine zget hx hb ht inlX10 hown hK hW 0 rfl rfl 63 (by decide) zm_203 rfl dX10_image_200 ?_
  refine lv_iload_n hx hb dX10_image_203 rfl (lv_at hl 0 rfl) ?_
  refine lv_aload_n hx hb dX10_image_204 rfl (lv_at hl 1 rfl) ?_
  refine zget hx hb ht inlX10 hown hK hW 0 rfl rfl 12 (by decide) zm_152 rfl dX10_image_205 ?_
  refine lv_iload_n hx hb dX10_image_208 rfl (lv_at hl 0 rfl) ?_
  refine ziald (v := 0) hx hb hK hW 6 rfl (by unfold vp_in; decide) rfl dX10_image_209 ?_
  refine ziast0 hx hb hK hS hW 18 rfl (by unfold vp_in; decide) (zupd0 _) dX10_image_210 (fun H locs hW hS => ?_)
  refine lv_iinc (k := 0) (v := 18) (lv' := [(1, .int 18), (0, .ref a0)]) hx hb dX10_image_211 hl rfl (by decide) (by decide) rfl (fun ls hl => ?_)
  refine lv_goto (tgt := 193) hx hb dX10_image_214 (by decide) ?_
  refine lv_iload_n hx hb dX10_image_193 rfl (lv_at hl 0 rfl) ?_
  refine lv_bipush (v := 28) hx hb dX10_image_194 (by decide) ?_
  refine lv_icmp_ge (tgt := 217) hx hb dX10_image_196 (by decide) (fun c27_ => absurd c27_ (by decide)) (fun c27_ => ?_)
  refine lv_aload_n hx hb dX10_image_199 rfl (lv_at hl 1 rfl) ?_
  refine zget hx hb ht inlX10 hown hK hW 0 rfl rfl 63 (by decide) zm_203 rfl dX10_image_200 ?_
  refine lv_iload_n hx hb dX10_image_203 rfl (lv_at hl 0 rfl) ?_
  refine lv_aload_n hx hb dX10_image_204 rfl (lv_at hl 1 rfl) ?_
  refine zget hx hb ht inlX10 hown hK hW 0 rfl rfl 12 (by decide) zm_152 rfl dX10_image_205 ?_
  refine lv_iload_n hx hb dX10_image_208 rfl (lv_at hl 0 rfl) ?_
  refine ziald (v := 0) hx hb hK hW 6 rfl (by unfold vp_in; decide) rfl dX10_image_209 ?_
  refine ziast0 hx hb hK hS hW 18 rfl (by unfold vp_in; decide) (zupd0 _) dX10_image_210 (fun H locs hW hS => ?_)
  refine lv_iinc (k := 0) (v := 19) (lv' := [(1, .int 19), (0, .ref a0)]) hx hb dX10_image_211 hl rfl (by decide) (by decide) rfl (fun ls hl => ?_)
  refine lv_goto (tgt := 193) hx hb dX10_image_214 (by decide) ?_
  refine lv_iload_n hx hb dX10_image_193 rfl (lv_at hl 0 rfl) ?_
  refine lv_bipush (v := 28) hx hb dX10_image_194 (by decide) ?_
  refine lv_icmp_ge (tgt := 217) hx hb dX10_image_196 (by decide) (fun c28_ => absurd c28_ (by decide)) (fun c28_ => ?_)
  refine lv_aload_n hx hb dX10_image_199 rfl (lv_at hl 1 rfl) ?_
  refine zget hx hb ht inlX10 hown hK hW 0 rfl rfl 63 (by decide) zm_203 rfl dX10_image_200 ?_
  refine lv_iload_n hx hb dX10_image_203 rfl (lv_at hl 0 rfl) ?_
  refine lv_aload_n hx hb dX10_image_204 rfl (lv_at hl 1 rfl) ?_
  refine zget hx hb ht inlX10 hown hK hW 0 rfl rfl 12 (by decide) zm_152 rfl dX10_image_205 ?_
  refine lv_iload_n hx hb dX10_image_208 rfl (lv_at hl 0 rfl) ?_
  refine ziald (v := 0) hx hb hK hW 6 rfl (by unfold vp_in; decide) rfl dX10_image_209 ?_
  refine ziast0 hx hb hK hS hW 18 rfl (by unfold vp_in; decide) (zupd0 _) dX10_image_210 (fun H locs hW hS => ?_)
  refine lv_iinc (k := 0) (v := 20) (lv' := [(1, .int 20), (0, .ref a0)]) hx hb dX10_image_211 hl rfl (by decide) (by decide) rfl (fun ls hl => ?_)
  refine lv_goto (tgt := 193) hx hb dX10_image_214 (by decide) ?_
  refine lv_iload_n hx hb dX10_image_193 rfl (lv_at hl 0 rfl) ?_
  refine lv_bipush (v := 28) hx hb dX10_image_194 (by decide) ?_
  refine lv_icmp_ge (tgt := 217) hx hb dX10_image_196 (by decide) (fun c29_ => absurd c29_ (by decide)) (fun c29_ => ?_)
  refine lv_aload_n hx hb dX10_image_199 rfl (lv_at hl 1 rfl) ?_
  refine zget hx hb ht inlX10 hown hK hW 0 rfl rfl 63 (by decide) zm_203 rfl dX10_image_200 ?_
  refine lv_iload_n hx hb dX10_image_203 rfl (lv_at hl 0 rfl) ?_
  refine lv_aload_n hx hb dX10_image_204 rfl (lv_at hl 1 rfl) ?_
  refine zget hx hb ht inlX10 hown hK hW 0 rfl rfl 12 (by decide) zm_152 rfl dX10_image_205 ?_
  refine lv_iload_n hx hb dX10_image_208 rfl (lv_at hl 0 rfl) ?_
  refine ziald (v := 0) hx hb hK hW 6 rfl (by unfold vp_in; decide) rfl dX10_image_209 ?_
  refine ziast0 hx hb hK hS hW 18 rfl (by unfold vp_in; decide) (zupd0 _) dX10_image_210 (fun H locs hW hS => ?_)
  refine lv_iinc (k := 0) (v := 21) (lv' := [(1, .int 21), (0, .ref a0)]) hx hb dX10_image_211 hl rfl (by decide) (by decide) rfl (fun ls hl => ?_)
  refine lv_goto (tgt := 193) hx hb dX10_image_214 (by decide) ?_
  refine lv_iload_n hx hb dX10_image_193 rfl (lv_at hl 0 rfl) ?_
  refine lv_bipush (v := 28) hx hb dX10_image_194 (by decide) ?_
  refine lv_icmp_ge (tgt := 217) hx hb dX10_image_196 (by decide) (fun c30_ => absurd c30_ (by decide)) (fun c30_ => ?_)
  refine lv_aload_n hx hb dX10_image_199 rfl (lv_at hl 1 rfl) ?_
  refine zget hx hb ht inlX10 hown hK hW 0 rfl rfl 63 (by decide) zm_203 rfl dX10_image_200 ?_
  refine lv_iload_n hx hb dX10_image_203 rfl (lv_at hl 0 rfl) ?_
  refine lv_aload_n hx hb dX10_image_204 rfl (lv_at hl 1 rfl) ?_
  refine zget hx hb ht inlX10 hown hK hW 0 rfl rfl 12 (by decide) zm_152 rfl dX10_image_205 ?_
  refine lv_iload_n hx hb dX10_image_208 rfl (lv_at hl 0 rfl) ?_
  refine ziald (v := 0) hx hb hK hW 6 rfl (by unfold vp_in; decide) rfl dX10_image_209 ?_
  refine ziast0 hx hb hK hS hW 18 rfl (by unfold vp_in; decide) (zupd0 _) dX10_image_210 (fun H locs hW hS => ?_)
  refine lv_iinc (k := 0) (v := 22) (lv' := [(1, .int 22), (0, .ref a0)]) hx hb dX10_image_211 hl rfl (by decide) (by decide) rfl (fun ls hl => ?_)
  refine lv_goto (tgt := 193) hx hb dX10_image_214 (by decide) ?_
  refine lv_iload_n hx hb dX10_image_193 rfl (lv_at hl 0 rfl) ?_
  refine lv_bipush (v := 28) hx hb dX10_image_194 (by decide) ?_
  refine lv_icmp_ge (tgt := 217) hx hb dX10_image_196 (by decide) (fun c31_ => absurd c31_ (by decide)) (fun c31_ => ?_)
  refine lv_aload_n hx hb dX10_image_199 rfl (lv_at hl 1 rfl) ?_
  refine zget hx hb ht inlX10 hown hK hW 0 rfl rfl 63 (by decide) zm_203 rfl dX10_image_200 ?_
  refine lv_iload_n hx hb dX10_image_203 rfl (lv_at hl 0 rfl) ?_
  refine lv_aload_n hx hb dX10_image_204 rfl (lv_at hl 1 rfl) ?_
  refine zget hx hb ht inlX10 hown hK hW 0 rfl rfl 12 (by decide) zm_152 rfl dX10_image_205 ?_
  refine lv_iload_n hx hb dX10_image_208 rfl (lv_at hl 0 rfl) ?_
  refine ziald (v := 0) hx hb hK hW 6 rfl (by unfold vp_in; decide) rfl dX10_image_209 ?_
  refine ziast0 hx hb hK hS hW 18 rfl (by unfold vp_in; decide) (zupd0 _) dX10_image_210 (fun H locs hW hS => ?_)
  refine lv_iinc (k := 0) (v := 23) (lv' := [(1, .int 23), (0, .ref a0)]) hx hb dX10_image_211 hl rfl (by decide) (by decide) rfl (fun ls hl => ?_)
  refine lv_goto (tgt := 193) hx hb dX10_image_214 (by decide) ?_
  refine lv_iload_n hx hb dX10_image_193 rfl (lv_at hl 0 rfl) ?_
  refine lv_bipush (v := 28) hx hb dX10_image_194 (by decide) ?_
  refine lv_icmp_ge (tgt := 217) hx hb dX10_image_196 (by decide) (fun c32_ => absurd c32_ (by decide)) (fun c32_ => ?_)
  refine lv_aload_n hx hb dX10_image_199 rfl (lv_at hl 1 rfl) ?_
  refine zget hx hb ht inlX10 hown hK hW 0 rfl rfl 63 (by decide) zm_203 rfl dX10_image_200 ?_
  refine lv_iload_n hx hb dX10_image_203 rfl (lv_at hl 0 rfl) ?_
  refine lv_aload_n hx hb dX10_image_204 rfl (lv_at hl 1 rfl) ?_
  refine zget hx hb ht inlX10 hown hK hW 0 rfl rfl 12 (by decide) zm_152 rfl dX10_image_205 ?_
  refine lv_iload_n hx hb dX10_image_208 rfl (lv_at hl 0 rfl) ?_
  refine ziald (v := 0) hx hb hK hW 6 rfl (by unfold vp_in; decide) rfl dX10_image_209 ?_
  refine ziast0 hx hb hK hS hW 18 rfl (by unfold vp_in; decide) (zupd0 _) dX10_image_210 (fun H locs hW hS => ?_)
  refine lv_iinc (k := 0) (v := 24) (lv' := [(1, .int 24), (0, .ref a0)]) hx hb dX10_image_211 hl rfl (by decide) (by decide) rfl (fun ls hl => ?_)
  refine lv_goto (tgt := 193) hx hb dX10_image_214 (by decide) ?_
  refine lv_iload_n hx hb dX10_image_193 rfl (lv_at hl 0 rfl) ?_
  refine lv_bipush (v := 28) hx hb dX10_image_194 (by decide) ?_
  refine lv_icmp_ge (tgt := 217) hx hb dX10_image_196 (by decide) (fun c33_ => absurd c33_ (by decide)) (fun c33_ => ?_)
  refine lv_aload_n hx hb dX10_image_199 rfl (lv_at hl 1 rfl) ?_
  refine zget hx hb ht inlX10 hown hK hW 0 rfl rfl 63 (by decide) zm_203 rfl dX10_image_200 ?_
  refine lv_iload_n hx hb dX10_image_203 rfl (lv_at hl 0 rfl) ?_
  refine lv_aload_n hx hb dX10_image_204 rfl (lv_at hl 1 rfl) ?_
  refine zget hx hb ht inlX10 hown hK hW 0 rfl rfl 12 (by decide) zm_152 rfl dX10_image_205 ?_
  refine lv_iload_n hx hb dX10_image_208 rfl (lv_at hl 0 rfl) ?_
  refine ziald (v := 0) hx hb hK hW 6 rfl (by unfold vp_in; decide) rfl dX10_image_209 ?_
  refine ziast0 hx hb hK hS hW 18 rfl (by unfold vp_in; decide) (zupd0 _) dX10_image_210 (fun H locs hW hS => ?_)
  refine lv_iinc (k := 0) (v := 25) (lv' := [(1, .int 25), (0, .ref a0)]) hx hb dX10_image_211 hl rfl (by decide) (by decide) rfl (fun ls hl => ?_)
  refine lv_goto (tgt := 193) hx hb dX10_image_214 (by decide) ?_
  refine lv_iload_n hx hb dX10_image_193 rfl (lv_at hl 0 rfl) ?_
  refine lv_bipush (v := 28) hx hb dX10_image_194 (by decide) ?_
  refine lv_icmp_ge (tgt := 217) hx hb dX10_image_196 (by decide) (fun c34_ => absurd c34_ (by decide)) (fun c34_ => ?_)
  refine lv_aload_n hx hb dX10_image_199 rfl (lv_at hl 1 rfl) ?_
  refine zget hx hb ht inlX10 hown hK hW 0 rfl rfl 63 (by decide) zm_203 rfl dX10_image_200 ?_
  refine lv_iload_n hx hb dX10_image_203 rfl (lv_at hl 0 rfl) ?_
  refine lv_aload_n hx hb dX10_image_204 rfl (lv_at hl 1 rfl) ?_
  refine zget hx hb ht inlX10 hown hK hW 0 rfl rfl 12 (by decide) zm_152 rfl dX10_image_205 ?_
  refine lv_iload_n hx hb dX10_image_208 rfl (lv_at hl 0 rfl) ?_
  refine ziald (v := 0) hx hb hK hW 6 rfl (by unfold vp_in; decide) rfl dX10_image_209 ?_
  refine ziast0 hx hb hK hS hW 18 rfl (by unfold vp_in; decide) (zupd0 _) dX10_image_210 (fun H locs hW hS => ?_)
  refine lv_iinc (k := 0) (v := 26) (lv' := [(1, .int 26), (0, .ref a0)]) hx hb dX10_image_211 hl rfl (by decide) (by decide) rfl (fun ls hl => ?_)
  refine lv_goto (tgt := 193) hx hb dX10_image_214 (by decide) ?_
  refine lv_iload_n hx hb dX10_image_193 rfl (lv_at hl 0 rfl) ?_
  refine lv_bipush (v := 28) hx hb dX10_image_194 (by decide) ?_
  refine lv_icmp_ge (tgt := 217) hx hb dX10_image_196 (by decide) (fun c35_ => absurd c35_ (by decide)) (fun c35_ => ?_)
  refine lv_aload_n hx hb dX10_image_199 rfl (lv_at hl 1 rfl) ?_
  refine zget hx hb ht inlX10 hown hK hW 0 rfl rfl 63 (by decide) zm_203 rfl dX10_image_200 ?_
  refine lv_iload_n hx hb dX10_image_203 rfl (lv_at hl 0 rfl) ?_
  refine lv_aload_n hx hb dX10_image_204 rfl (lv_at hl 1 rfl) ?_
  refine zget hx hb ht inlX10 hown hK hW 0 rfl rfl 12 (by decide) zm_152 rfl dX10_image_205 ?_
  refine lv_iload_n hx hb dX10_image_208 rfl (lv_at hl 0 rfl) ?_
  refine ziald (v := 0) hx hb hK hW 6 rfl (by unfold vp_in; decide) rfl dX10_image_209 ?_
  refine ziast0 hx hb hK hS hW 18 rfl (by unfold vp_in; decide) (zupd0 _) dX10_image_210 (fun H locs hW hS => ?_)
  refine lv_iinc (k := 0) (v := 27) (lv' := [(1, .int 27), (0, .ref a0)]) hx hb dX10_image_211 hl rfl (by decide) (by decide) rfl (fun ls hl => ?_)
  refine lv_goto (tgt := 193) hx hb dX10_image_214 (by decide) ?_
  refine lv_iload_n hx hb dX10_image_193 rfl (lv_at hl 0 rfl) ?_
  refine lv_bipush (v := 28) hx hb dX10_image_194 (by decide) ?_
  refine lv_icmp_ge (tgt := 217) hx hb dX10_image_196 (by decide) (fun c36_ => absurd c36_ (by decide)) (fun c36_ => ?_)
  refine lv_aload_n hx hb dX10_image_199 rfl (lv_at hl 1 rfl) ?_
  refine zget hx hb ht inlX10 hown hK hW 0 rfl rfl 63 (by decide) zm_203 rfl dX10_image_200 ?_
  refine lv_iload_n hx hb dX10_image_203 rfl (lv_at hl 0 rfl) ?_
  refine lv_aload_n hx hb dX10_image_204 rfl (lv_at hl 1 rfl) ?_
  refine zget hx hb ht inlX10 hown hK hW 0 rfl rfl 12 (by decide) zm_152 rfl dX10_image_205 ?_
  refine lv_iload_n hx hb dX10_image_208 rfl (lv_at hl 0 rfl) ?_
  refine ziald (v := 0) hx hb hK hW 6 rfl (by unfold vp_in; decide) rfl dX10_image_209 ?_
  refine ziast0 hx hb hK hS hW 18 rfl (by unfold vp_in; decide) (zupd0 _) dX10_image_210 (fun H locs hW hS => ?_)
  refine lv_iinc (k := 0) (v := 28) (lv' := [(1, .int 28), (0, .ref a0)]) hx hb dX10_image_211 hl rfl (by decide) (by decide) rfl (fun ls hl => ?_)
  refine lv_goto (tgt := 193) hx hb dX10_image_214 (by decide) ?_
  refine lv_iload_n hx hb dX10_image_193 rfl (lv_at hl 0 rfl) ?_
  refine lv_bipush (v := 28) hx hb dX10_image_194 (by decide) ?_
  refine lv_icmp_ge (tgt := 217) hx hb dX10_image_196 (by decide) (fun c37_ => ?_) (fun c37_ => absurd (by decide) c37_)
  refine lv_iconst (v := 0) hx hb dX10_image_217 (by decide) ?_
  refine lv_istore_n (lv' := [(1, .int 0), (0, .ref a0)]) hx hb dX10_image_218 rfl hl (by decide) rfl (fun ls hl => ?_)
  refine lv_iload_n hx hb dX10_image_219 rfl (lv_at hl 0 rfl) ?_
  refine lv_bipush (v := 6) hx hb dX10_image_220 (by decide) ?_
  refine lv_icmp_ge (tgt := 255) hx hb dX10_image_222 (by decide) (fun c38_ => absurd c38_ (by decide)) (fun c38_ => ?_)
  refine lv_aload_n hx hb dX10_image_225 rfl (lv_at hl 1 rfl) ?_
  refine zget hx hb ht inlX10 hown hK hW 0 rfl rfl 65 (by decide) zm_205 rfl dX10_image_226 ?_
  refine lv_iload_n hx hb dX10_image_229 rfl (lv_at hl 0 rfl) ?_
  refine lv_aload_n hx hb dX10_image_230 rfl (lv_at hl 1 rfl) ?_
  refine zget hx hb ht inlX10 hown hK hW 0 rfl rfl 41 (by decide) zm_181 rfl dX10_image_231 ?_
  refine lv_iload_n hx hb dX10_image_234 rfl (lv_at hl 0 rfl) ?_
  refine ziald (v := 0) hx hb hK hW 9 rfl (by unfold vp_in; decide) rfl dX10_image_235 ?_
  refine ziast0 hx hb hK hS hW 20 rfl (by unfold vp_in; decide) (zupd0 _) dX10_image_236 (fun H locs hW hS => ?_)
  refine lv_aload_n hx hb dX10_image_237 rfl (lv_at hl 1 rfl) ?_
  refine zget hx hb ht inlX10 hown hK hW 0 rfl rfl 66 (by decide) zm_206 rfl dX10_image_238 ?_
  refine lv_iload_n hx hb dX10_image_241 rfl (lv_at hl 0 rfl) ?_
  refine lv_aload_n hx hb dX10_image_242 rfl (lv_at hl 1 rfl) ?_
  refine zget hx hb ht inlX10 hown hK hW 0 rfl rfl 42 (by decide) zm_182 rfl dX10_image_243 ?_
  refine lv_iload_n hx hb dX10_image_246 rfl (lv_at hl 0 rfl) ?_
  refine ziald (v := 0) hx hb hK hW 10 rfl (by unfold vp_in; decide) rfl dX10_image_247 ?_
  refine ziast0 hx hb hK hS hW 21 rfl (by unfold vp_in; decide) (zupd0 _) dX10_image_248 (fun H locs hW hS => ?_)
  refine lv_iinc (k := 0) (v := 1) (lv' := [(1, .int 1), (0, .ref a0)]) hx hb dX10_image_249 hl rfl (by decide) (by decide) rfl (fun ls hl => ?_)
  refine lv_goto (tgt := 219) hx hb dX10_image_252 (by decide) ?_
  refine lv_iload_n hx hb dX10_image_219 rfl (lv_at hl 0 rfl) ?_
  refine lv_bipush (v := 6) hx hb dX10_image_220 (by decide) ?_
  refine lv_icmp_ge (tgt := 255) hx hb dX10_image_222 (by decide) (fun c39_ => absurd c39_ (by decide)) (fun c39_ => ?_)
  refine lv_aload_n hx hb dX10_image_225 rfl (lv_at hl 1 rfl) ?_
  refine zget hx hb ht inlX10 hown hK hW 0 rfl rfl 65 (by decide) zm_205 rfl dX10_image_226 ?_
  refine lv_iload_n hx hb dX10_image_229 rfl (lv_at hl 0 rfl) ?_
  refine lv_aload_n hx hb dX10_image_230 rfl (lv_at hl 1 rfl) ?_
  refine zget hx hb ht inlX10 hown hK hW 0 rfl rfl 41 (by decide) zm_181 rfl dX10_image_231 ?_
  refine lv_iload_n hx hb dX10_image_234 rfl (lv_at hl 0 rfl) ?_
  refine ziald (v := 0) hx hb hK hW 9 rfl (by unfold vp_in; decide) rfl dX10_image_235 ?_
  refine ziast0 hx hb hK hS hW 20 rfl (by unfold vp_in; decide) (zupd0 _) dX10_image_236 (fun H locs hW hS => ?_)
  refine lv_aload_n hx hb dX10_image_237 rfl (lv_at hl 1 rfl) ?_
  refine zget hx hb ht inlX10 hown hK hW 0 rfl rfl 66 (by decide) zm_206 rfl dX10_image_238 ?_
  refine lv_iload_n hx hb dX10_image_241 rfl (lv_at hl 0 rfl) ?_
  refine lv_aload_n hx hb dX10_image_242 rfl (lv_at hl 1 rfl) ?_
  refine zget hx hb ht inlX10 hown hK hW 0 rfl rfl 42 (by decide) zm_182 rfl dX10_image_243 ?_
  refine lv_iload_n hx hb dX10_image_246 rfl (lv_at hl 0 rfl) ?_
  refine ziald (v := 0) hx hb hK hW 10 rfl (by unfold vp_in; decide) rfl dX10_image_247 ?_
  refine ziast0 hx hb hK hS hW 21 rfl (by unfold vp_in; decide) (zupd0 _) dX10_image_248 (fun H locs hW hS => ?_)
  refine lv_iinc (k := 0) (v := 2) (lv' := [(1, .int 2), (0, .ref a0)]) hx hb dX10_image_249 hl rfl (by decide) (by decide) rfl (fun ls hl => ?_)
  refine lv_goto (tgt := 219) hx hb dX10_image_252 (by decide) ?_
  refine lv_iload_n hx hb dX10_image_219 rfl (lv_at hl 0 rfl) ?_
  refine lv_bipush (v := 6) hx hb dX10_image_220 (by decide) ?_
  refine lv_icmp_ge (tgt := 255) hx hb dX10_image_222 (by decide) (fun c40_ => absurd c40_ (by decide)) (fun c40_ => ?_)
  refine lv_aload_n hx hb dX10_image_225 rfl (lv_at hl 1 rfl) ?_
  refine zget hx hb ht inlX10 hown hK hW 0 rfl rfl 65 (by decide) zm_205 rfl dX10_image_226 ?_
  refine lv_iload_n hx hb dX10_image_229 rfl (lv_at hl 0 rfl) ?_
  refine lv_aload_n hx hb dX10_image_230 rfl (lv_at hl 1 rfl) ?_
  refine zget hx hb ht inlX10 hown hK hW 0 rfl rfl 41 (by decide) zm_181 rfl dX10_image_231 ?_
  refine lv_iload_n hx hb dX10_image_234 rfl (lv_at hl 0 rfl) ?_
  refine ziald (v := 0) hx hb hK hW 9 rfl (by unfold vp_in; decide) rfl dX10_image_235 ?_
  refine ziast0 hx hb hK hS hW 20 rfl (by unfold vp_in; decide) (zupd0 _) dX10_image_236 (fun H locs hW hS => ?_)
  refine lv_aload_n hx hb dX10_image_237 rfl (lv_at hl 1 rfl) ?_
  refine zget hx hb ht inlX10 hown hK hW 0 rfl rfl 66 (by decide) zm_206 rfl dX10_image_238 ?_
  refine lv_iload_n hx hb dX10_image_241 rfl (lv_at hl 0 rfl) ?_
  refine lv_aload_n hx hb dX10_image_242 rfl (lv_at hl 1 rfl) ?_
  refine zget hx hb ht inlX10 hown hK hW 0 rfl rfl 42 (by decide) zm_182 rfl dX10_image_243 ?_
  refine lv_iload_n hx hb dX10_image_246 rfl (lv_at hl 0 rfl) ?_
  refine ziald (v := 0) hx hb hK hW 10 rfl (by unfold vp_in; decide) rfl dX10_image_247 ?_
  refine ziast0 hx hb hK hS hW 21 rfl (by unfold vp_in; decide) (zupd0 _) dX10_image_248 (fun H locs hW hS => ?_)
  refine lv_iinc (k := 0) (v := 3) (lv' := [(1, .int 3), (0, .ref a0)]) hx hb dX10_image_249 hl rfl (by decide) (by decide) rfl (fun ls hl => ?_)
  refine lv_goto (tgt := 219) hx hb dX10_image_252 (by decide) ?_
  refine lv_iload_n hx hb dX10_image_219 rfl (lv_at hl 0 rfl) ?_
  refine lv_bipush (v := 6) hx hb dX10_image_220 (by decide) ?_
  refine lv_icmp_ge (tgt := 255) hx hb dX10_image_222 (by decide) (fun c41_ => absurd c41_ (by decide)) (fun c41_ => ?_)
  refine lv_aload_n hx hb dX10_image_225 rfl (lv_at hl 1 rfl) ?_
  refine zget hx hb ht inlX10 hown hK hW 0 rfl rfl 65 (by decide) zm_205 rfl dX10_image_226 ?_
  refine lv_iload_n hx hb dX10_image_229 rfl (lv_at hl 0 rfl) ?_
  refine lv_aload_n hx hb dX10_image_230 rfl (lv_at hl 1 rfl) ?_
  refine zget hx hb ht inlX10 hown hK hW 0 rfl rfl 41 (by decide) zm_181 rfl dX10_image_231 ?_
  refine lv_iload_n hx hb dX10_image_234 rfl (lv_at hl 0 rfl) ?_
  refine ziald (v := 0) hx hb hK hW 9 rfl (by unfold vp_in; decide) rfl dX10_image_235 ?_
  refine ziast0 hx hb hK hS hW 20 rfl (by unfold vp_in; decide) (zupd0 _) dX10_image_236 (fun H locs hW hS => ?_)
  refine lv_aload_n hx hb dX10_image_237 rfl (lv_at hl 1 rfl) ?_
  refine zget hx hb ht inlX10 hown hK hW 0 rfl rfl 66 (by decide) zm_206 rfl dX10_image_238 ?_
  refine lv_iload_n hx hb dX10_image_241 rfl (lv_at hl 0 rfl) ?_
  refine lv_aload_n hx hb dX10_image_242 rfl (lv_at hl 1 rfl) ?_
  refine zget hx hb ht inlX10 hown hK hW 0 rfl rfl 42 (by decide) zm_182 rfl dX10_image_243 ?_
  refine lv_iload_n hx hb dX10_image_246 rfl (lv_at hl 0 rfl) ?_
  refine ziald (v := 0) hx hb hK hW 10 rfl (by unfold vp_in; decide) rfl dX10_image_247 ?_
  refine ziast0 hx hb hK hS hW 21 rfl (by unfold vp_in; decide) (zupd0 _) dX10_image_248 (fun H locs hW hS => ?_)
  refine lv_iinc (k := 0) (v := 4) (lv' := [(1, .int 4), (0, .ref a0)]) hx hb dX10_image_249 hl rfl (by decide) (by decide) rfl (fun ls hl => ?_)
  refine lv_goto (tgt := 219) hx hb dX10_image_252 (by decide) ?_
  refine lv_iload_n hx hb dX10_image_219 rfl (lv_at hl 0 rfl) ?_
  refine lv_bipush (v := 6) hx hb dX10_image_220 (by decide) ?_
  refine lv_icmp_ge (tgt := 255) hx hb dX10_image_222 (by decide) (fun c42_ => absurd c42_ (by decide)) (fun c42_ => ?_)
  refine lv_aload_n hx hb dX10_image_225 rfl (lv_at hl 1 rfl) ?_
  refine zget hx hb ht inlX10 hown hK hW 0 rfl rfl 65 (by decide) zm_205 rfl dX10_image_226 ?_
  refine lv_iload_n hx hb dX10_image_229 rfl (lv_at hl 0 rfl) ?_
  refine lv_aload_n hx hb dX10_image_230 rfl (lv_at hl 1 rfl) ?_
  refine zget hx hb ht inlX10 hown hK hW 0 rfl rfl 41 (by decide) zm_181 rfl dX10_image_231 ?_
  refine lv_iload_n hx hb dX10_image_234 rfl (lv_at hl 0 rfl) ?_
  refine ziald (v := 0) hx hb hK hW 9 rfl (by unfold vp_in; decide) rfl dX10_image_235 ?_
  refine ziast0 hx hb hK hS hW 20 rfl (by unfold vp_in; decide) (zupd0 _) dX10_image_236 (fun H locs hW hS => ?_)
  refine lv_aload_n hx hb dX10_image_237 rfl (lv_at hl 1 rfl) ?_
  refine zget hx hb ht inlX10 hown hK hW 0 rfl rfl 66 (by decide) zm_206 rfl dX10_image_238 ?_
  refine lv_iload_n hx hb dX10_image_241 rfl (lv_at hl 0 rfl) ?_
  refine lv_aload_n hx hb dX10_image_242 rfl (lv_at hl 1 rfl) ?_
  refine zget hx hb ht inlX10 hown hK hW 0 rfl rfl 42 (by decide) zm_182 rfl dX10_image_243 ?_
  refine lv_iload_n hx hb dX10_image_246 rfl (lv_at hl 0 rfl) ?_
  refine ziald (v := 0) hx hb hK hW 10 rfl (by unfold vp_in; decide) rfl dX10_image_247 ?_
  refine ziast0 hx hb hK hS hW 21 rfl (by unfold vp_in; decide) (zupd0 _) dX10_image_248 (fun H locs hW hS => ?_)
  refine lv_iinc (k := 0) (v := 5) (lv' := [(1, .int 5), (0, .ref a0)]) hx hb dX10_image_249 hl rfl (by decide) (by decide) rfl (fun ls hl => ?_)
  refine lv_goto (tgt := 219) hx hb dX10_image_252 (by decide) ?_
  refine lv_iload_n hx hb dX10_image_219 rfl (lv_at hl 0 rfl) ?_
  refine lv_bipush (v := 6) hx hb dX10_image_220 (by decide) ?_
  refine lv_icmp_ge (tgt := 255) hx hb dX10_image_222 (by decide) (fun c43_ => absurd c43_ (by decide)) (fun c43_ => ?_)
  refine lv_aload_n hx hb dX10_image_225 rfl (lv_at hl 1 rfl) ?_
  refine zget hx hb ht inlX10 hown hK hW 0 rfl rfl 65 (by decide) zm_205 rfl dX10_image_226 ?_
  refine lv_iload_n hx hb dX10_image_229 rfl (lv_at hl 0 rfl) ?_
  refine lv_aload_n hx hb dX10_image_230 rfl (lv_at hl 1 rfl) ?_
  refine zget hx hb ht inlX10 hown hK hW 0 rfl rfl 41 (by decide) zm_181 rfl dX10_image_231 ?_
  refine lv_iload_n hx hb dX10_image_234 rfl (lv_at hl 0 rfl) ?_
  refine ziald (v := 0) hx hb hK hW 9 rfl (by unfold vp_in; decide) rfl dX10_image_235 ?_
  refine ziast0 hx hb hK hS hW 20 rfl (by unfold vp_in; decide) (zupd0 _) dX10_image_236 (fun H locs hW hS => ?_)
  refine lv_aload_n hx hb dX10_image_237 rfl (lv_at hl 1 rfl) ?_
  refine zget hx hb ht inlX10 hown hK hW 0 rfl rfl 66 (by decide) zm_206 rfl dX10_image_238 ?_
  refine lv_iload_n hx hb dX10_image_241 rfl (lv_at hl 0 rfl) ?_
  refine lv_aload_n hx hb dX10_image_242 rfl (lv_at hl 1 rfl) ?_
  refine zget hx hb ht inlX10 hown hK hW 0 rfl rfl 42 (by decide) zm_182 rfl dX10_image_243 ?_
  refine lv_iload_n hx hb dX10_image_246 rfl (lv_at hl 0 rfl) ?_
  refine ziald (v := 0) hx hb hK hW 10 rfl (by unfold vp_in; decide) rfl dX10_image_247 ?_
  refine ziast0 hx hb hK hS hW 21 rfl (by unfold vp_in; decide) (zupd0 _) dX10_image_248 (fun H locs hW hS => ?_)
  refine lv_iinc (k := 0) (v := 6) (lv' := [(1, .int 6), (0, .ref a0)]) hx hb dX10_image_249 hl rfl (by decide) (by decide) rfl (fun ls hl => ?_)
  refine lv_goto (tgt := 219) hx hb dX10_image_252 (by decide) ?_
  refine lv_iload_n hx hb dX10_image_219 rfl (lv_at hl 0 rfl) ?_
  refine lv_bipush (v := 6) hx hb dX10_image_220 (by decide) ?_
  refine lv_icmp_ge (tgt := 255) hx hb dX10_image_222 (by decide) (fun c44_ => ?_) (fun c44_ => absurd (by decide) c44_)
  refine lv_iconst (v := 0) hx hb dX10_image_255 (by decide) ?_
  refine lv_istore_n (lv' := [(1, .int 0), (0, .ref a0)]) hx hb dX10_image_256 rfl hl (by decide) rfl (fun ls hl => ?_)
  refine lv_iload_n hx hb dX10_image_257 rfl (lv_at hl 0 rfl) ?_
  refine lv_bipush (v := 8) hx hb dX10_image_258 (by decide) ?_
  refine lv_icmp_ge (tgt := 293) hx hb dX10_image_260 (by decide) (fun c45_ => absurd c45_ (by decide)) (fun c45_ => ?_)
  refine lv_aload_n hx hb dX10_image_263 rfl (lv_at hl 1 rfl) ?_
  refine zget hx hb ht inlX10 hown hK hW 0 rfl rfl 67 (by decide) zm_207 rfl dX10_image_264 ?_
  refine lv_iload_n hx hb dX10_image_267 rfl (lv_at hl 0 rfl) ?_
  refine lv_aload_n hx hb dX10_image_268 rfl (lv_at hl 1 rfl) ?_
  refine zget hx hb ht inlX10 hown hK hW 0 rfl rfl 44 (by decide) zm_184 rfl dX10_image_269 ?_
  refine lv_iload_n hx hb dX10_image_272 rfl (lv_at hl 0 rfl) ?_
  refine ziald (v := 0) hx hb hK hW 11 rfl (by unfold vp_in; decide) rfl dX10_image_273 ?_
  refine ziast0 hx hb hK hS hW 22 rfl (by unfold vp_in; decide) (zupd0 _) dX10_image_274 (fun H locs hW hS => ?_)
  refine lv_aload_n hx hb dX10_image_275 rfl (lv_at hl 1 rfl) ?_
  refine zget hx hb ht inlX10 hown hK hW 0 rfl rfl 68 (by decide) zm_208 rfl dX10_image_276 ?_
  refine lv_iload_n hx hb dX10_image_279 rfl (lv_at hl 0 rfl) ?_
  refine lv_aload_n hx hb dX10_image_280 rfl (lv_at hl 1 rfl) ?_
  refine zget hx hb ht inlX10 hown hK hW 0 rfl rfl 45 (by decide) zm_185 rfl dX10_image_281 ?_
  refine lv_iload_n hx hb dX10_image_284 rfl (lv_at hl 0 rfl) ?_
  refine ziald (v := 0) hx hb hK hW 12 rfl (by unfold vp_in; decide) rfl dX10_image_285 ?_
  refine ziast0 hx hb hK hS hW 23 rfl (by unfold vp_in; decide) (zupd0 _) dX10_image_286 (fun H locs hW hS => ?_)
  refine lv_iinc (k := 0) (v := 1) (lv' := [(1, .int 1), (0, .ref a0)]) hx hb dX10_image_287 hl rfl (by decide) (by decide) rfl (fun ls hl => ?_)
  refine lv_goto (tgt := 257) hx hb dX10_image_290 (by decide) ?_
  refine lv_iload_n hx hb dX10_image_257 rfl (lv_at hl 0 rfl) ?_
  refine lv_bipush (v := 8) hx hb dX10_image_258 (by decide) ?_
  refine lv_icmp_ge (tgt := 293) hx hb dX10_image_260 (by decide) (fun c46_ => absurd c46_ (by decide)) (fun c46_ => ?_)
  refine lv_aload_n hx hb dX10_image_263 rfl (lv_at hl 1 rfl) ?_
  refine zget hx hb ht inlX10 hown hK hW 0 rfl rfl 67 (by decide) zm_207 rfl dX10_image_264 ?_
  refine lv_iload_n hx hb dX10_image_267 rfl (lv_at hl 0 rfl) ?_
  refine lv_aload_n hx hb dX10_image_268 rfl (lv_at hl 1 rfl) ?_
  refine zget hx hb ht inlX10 hown hK hW 0 rfl rfl 44 (by decide) zm_184 rfl dX10_image_269 ?_
  refine lv_iload_n hx hb dX10_image_272 rfl (lv_at hl 0 rfl) ?_
  refine ziald (v := 0) hx hb hK hW 11 rfl (by unfold vp_in; decide) rfl dX10_image_273 ?_
  refine ziast0 hx hb hK hS hW 22 rfl (by unfold vp_in; decide) (zupd0 _) dX10_image_274 (fun H locs hW hS => ?_)
  refine lv_aload_n hx hb dX10_image_275 rfl (lv_at hl 1 rfl) ?_
  refine zget hx hb ht inlX10 hown hK hW 0 rfl rfl 68 (by decide) zm_208 rfl dX10_image_276 ?_
  refine lv_iload_n hx hb dX10_image_279 rfl (lv_at hl 0 rfl) ?_
  refine lv_aload_n hx hb dX10_image_280 rfl (lv_at hl 1 rfl) ?_
  refine zget hx hb ht inlX10 hown hK hW 0 rfl rfl 45 (by decide) zm_185 rfl dX10_image_281 ?_
  refine lv_iload_n hx hb dX10_image_284 rfl (lv_at hl 0 rfl) ?_
  refine ziald (v := 0) hx hb hK hW 12 rfl (by unfold vp_in; decide) rfl dX10_image_285 ?_
  refine ziast0 hx hb hK hS hW 23 rfl (by unfold vp_in; decide) (zupd0 _) dX10_image_286 (fun H locs hW hS => ?_)
  refine lv_iinc (k := 0) (v := 2) (lv' := [(1, .int 2), (0, .ref a0)]) hx hb dX10_image_287 hl rfl (by decide) (by decide) rfl (fun ls hl => ?_)
  refine lv_goto (tgt := 257) hx hb dX10_image_290 (by decide) ?_
  refine lv_iload_n hx hb dX10_image_257 rfl (lv_at hl 0 rfl) ?_
  refine lv_bipush (v := 8) hx hb dX10_image_258 (by decide) ?_
  refine lv_icmp_ge (tgt := 293) hx hb dX10_image_260 (by decide) (fun c47_ => absurd c47_ (by decide)) (fun c47_ => ?_)
  refine lv_aload_n hx hb dX10_image_263 rfl (lv_at hl 1 rfl) ?_
  refine zget hx hb ht inlX10 hown hK hW 0 rfl rfl 67 (by decide) zm_207 rfl dX10_image_264 ?_
  refine lv_iload_n hx hb dX10_image_267 rfl (lv_at hl 0 rfl) ?_
  refine lv_aload_n hx hb dX10_image_268 rfl (lv_at hl 1 rfl) ?_
  refine zget hx hb ht inlX10 hown hK hW 0 rfl rfl 44 (by decide) zm_184 rfl dX10_image_269 ?_
  refine lv_iload_n hx hb dX10_image_272 rfl (lv_at hl 0 rfl) ?_
  refine ziald (v := 0) hx hb hK hW 11 rfl (by unfold vp_in; decide) rfl dX10_image_273 ?_
  refine ziast0 hx hb hK hS hW 22 rfl (by unfold vp_in; decide) (zupd0 _) dX10_image_274 (fun H locs hW hS => ?_)
  refine lv_aload_n hx hb dX10_image_275 rfl (lv_at hl 1 rfl) ?_
  refine zget hx hb ht inlX10 hown hK hW 0 rfl rfl 68 (by decide) zm_208 rfl dX10_image_276 ?_
  refine lv_iload_n hx hb dX10_image_279 rfl (lv_at hl 0 rfl) ?_
  refine lv_aload_n hx hb dX10_image_280 rfl (lv_at hl 1 rfl) ?_
  refine zget hx hb ht inlX10 hown hK hW 0 rfl rfl 45 (by decide) zm_185 rfl dX10_image_281 ?_
  refine lv_iload_n hx hb dX10_image_284 rfl (lv_at hl 0 rfl) ?_
  refine ziald (v := 0) hx hb hK hW 12 rfl (by unfold vp_in; decide) rfl dX10_image_285 ?_
  refine ziast0 hx hb hK hS hW 23 rfl (by unfold vp_in; decide) (zupd0 _) dX10_image_286 (fun H locs hW hS => ?_)
  refine lv_iinc (k := 0) (v := 3) (lv' := [(1, .int 3), (0, .ref a0)]) hx hb dX10_image_287 hl rfl (by decide) (by decide) rfl (fun ls hl => ?_)
  refine lv_goto (tgt := 257) hx hb dX10_image_290 (by decide) ?_
  refine lv_iload_n hx hb dX10_image_257 rfl (lv_at hl 0 rfl) ?_
  refine lv_bipush (v := 8) hx hb dX10_image_258 (by decide) ?_
  refine lv_icmp_ge (tgt := 293) hx hb dX10_image_260 (by decide) (fun c48_ => absurd c48_ (by decide)) (fun c48_ => ?_)
  refine lv_aload_n hx hb dX10_image_263 rfl (lv_at hl 1 rfl) ?_
  refine zget hx hb ht inlX10 hown hK hW 0 rfl rfl 67 (by decide) zm_207 rfl dX10_image_264 ?_
  refine lv_iload_n hx hb dX10_image_267 rfl (lv_at hl 0 rfl) ?_
  refine lv_aload_n hx hb dX10_image_268 rfl (lv_at hl 1 rfl) ?_
  refine zget hx hb ht inlX10 hown hK hW 0 rfl rfl 44 (by decide) zm_184 rfl dX10_image_269 ?_
  refine lv_iload_n hx hb dX10_image_272 rfl (lv_at hl 0 rfl) ?_
  refine ziald (v := 0) hx hb hK hW 11 rfl (by unfold vp_in; decide) rfl dX10_image_273 ?_
  refine ziast0 hx hb hK hS hW 22 rfl (by unfold vp_in; decide) (zupd0 _) dX10_image_274 (fun H locs hW hS => ?_)
  refine lv_aload_n hx hb dX10_image_275 rfl (lv_at hl 1 rfl) ?_
  refine zget hx hb ht inlX10 hown hK hW 0 rfl rfl 68 (by decide) zm_208 rfl dX10_image_276 ?_
  refine lv_iload_n hx hb dX10_image_279 rfl (lv_at hl 0 rfl) ?_
  refine lv_aload_n hx hb dX10_image_280 rfl (lv_at hl 1 rfl) ?_
  refine zget hx hb ht inlX10 hown hK hW 0 rfl rfl 45 (by decide) zm_185 rfl dX10_image_281 ?_
  refine lv_iload_n hx hb dX10_image_284 rfl (lv_at hl 0 rfl) ?_
  refine ziald (v := 0) hx hb hK hW 12 rfl (by unfold vp_in; decide) rfl dX10_image_285 ?_
  refine ziast0 hx hb hK hS hW 23 rfl (by unfold vp_in; decide) (zupd0 _) dX10_image_286 (fun H locs hW hS => ?_)
  refine lv_iinc (k := 0) (v := 4) (lv' := [(1, .int 4), (0, .ref a0)]) hx hb dX10_image_287 hl rfl (by decide) (by decide) rfl (fun ls hl => ?_)
  refine lv_goto (tgt := 257) hx hb dX10_image_290 (by decide) ?_
  refine lv_iload_n hx hb dX10_image_257 rfl (lv_at hl 0 rfl) ?_
  refine lv_bipush (v := 8) hx hb dX10_image_258 (by decide) ?_
  refine lv_icmp_ge (tgt := 293) hx hb dX10_image_260 (by decide) (fun c49_ => absurd c49_ (by decide)) (fun c49_ => ?_)
  refine lv_aload_n hx hb dX10_image_263 rfl (lv_at hl 1 rfl) ?_
  refine zget hx hb ht inlX10 hown hK hW 0 rfl rfl 67 (by decide) zm_207 rfl dX10_image_264 ?_
  refine lv_iload_n hx hb dX10_image_267 rfl (lv_at hl 0 rfl) ?_
  refine lv_aload_n hx hb dX10_image_268 rfl (lv_at hl 1 rfl) ?_
  refine zget hx hb ht inlX10 hown hK hW 0 rfl rfl 44 (by decide) zm_184 rfl dX10_image_269 ?_
  refine lv_iload_n hx hb dX10_image_272 rfl (lv_at hl 0 rfl) ?_
  refine ziald (v := 0) hx hb hK hW 11 rfl (by unfold vp_in; decide) rfl dX10_image_273 ?_
  refine ziast0 hx hb hK hS hW 22 rfl (by unfold vp_in; decide) (zupd0 _) dX10_image_274 (fun H locs hW hS => ?_)
  refine lv_aload_n hx hb dX10_image_275 rfl (lv_at hl 1 rfl) ?_
  refine zget hx hb ht inlX10 hown hK hW 0 rfl rfl 68 (by decide) zm_208 rfl dX10_image_276 ?_
  refine lv_iload_n hx hb dX10_image_279 rfl (lv_at hl 0 rfl) ?_
  refine lv_aload_n hx hb dX10_image_280 rfl (lv_at hl 1 rfl) ?_
  refine zget hx hb ht inlX10 hown hK hW 0 rfl rfl 45 (by decide) zm_185 rfl dX10_image_281 ?_
  refine lv_iload_n hx hb dX10_image_284 rfl (lv_at hl 0 rfl) ?_
  refine ziald (v := 0) hx hb hK hW 12 rfl (by unfold vp_in; decide) rfl dX10_image_285 ?_
  refine ziast0 hx hb hK hS hW 23 rfl (by unfold vp_in; decide) (zupd0 _) dX10_image_286 (fun H locs hW hS => ?_)
  refine lv_iinc (k := 0) (v := 5) (lv' := [(1, .int 5), (0, .ref a0)]) hx hb dX10_image_287 hl rfl (by decide) (by decide) rfl (fun ls hl => ?_)
  refine lv_goto (tgt := 257) hx hb dX10_image_290 (by decide) ?_
  refine lv_iload_n hx hb dX10_image_257 rfl (lv_at hl 0 rfl) ?_
  refine lv_bipush (v := 8) hx hb dX10_image_258 (by decide) ?_
  refine lv_icmp_ge (tgt := 293) hx hb dX10_image_260 (by decide) (fun c50_ => absurd c50_ (by decide)) (fun c50_ => ?_)
  refine lv_aload_n hx hb dX10_image_263 rfl (lv_at hl 1 rfl) ?_
  refine zget hx hb ht inlX10 hown hK hW 0 rfl rfl 67 (by decide) zm_207 rfl dX10_image_264 ?_
  refine lv_iload_n hx hb dX10_image_267 rfl (lv_at hl 0 rfl) ?_
  refine lv_aload_n hx hb dX10_image_268 rfl (lv_at hl 1 rfl) ?_
  refine zget hx hb ht inlX10 hown hK hW 0 rfl rfl 44 (by decide) zm_184 rfl dX10_image_269 ?_
  refine lv_iload_n hx hb dX10_image_272 rfl (lv_at hl 0 rfl) ?_
  refine ziald (v := 0) hx hb hK hW 11 rfl (by unfold vp_in; decide) rfl dX10_image_273 ?_
  refine ziast0 hx hb hK hS hW 22 rfl (by unfold vp_in; decide) (zupd0 _) dX10_image_274 (fun H locs hW hS => ?_)
  refine lv_aload_n hx hb dX10_image_275 rfl (lv_at hl 1 rfl) ?_
  refine zget hx hb ht inlX10 hown hK hW 0 rfl rfl 68 (by decide) zm_208 rfl dX10_image_276 ?_
  refine lv_iload_n hx hb dX10_image_279 rfl (lv_at hl 0 rfl) ?_
  refine lv_aload_n hx hb dX10_image_280 rfl (lv_at hl 1 rfl) ?_
  refine zget hx hb ht inlX10 hown hK hW 0 rfl rfl 45 (by decide) zm_185 rfl dX10_image_281 ?_
  refine lv_iload_n hx hb dX10_image_284 rfl (lv_at hl 0 rfl) ?_
  refine ziald (v := 0) hx hb hK hW 12 rfl (by unfold vp_in; decide) rfl dX10_image_285 ?_
  refine ziast0 hx hb hK hS hW 23 rfl (by unfold vp_in; decide) (zupd0 _) dX10_image_286 (fun H locs hW hS => ?_)
  refine lv_iinc (k := 0) (v := 6) (lv' := [(1, .int 6), (0, .ref a0)]) hx hb dX10_image_287 hl rfl (by decide) (by decide) rfl (fun ls hl => ?_)
  refine lv_goto (tgt := 257) hx hb dX10_image_290 (by decide) ?_
  refine lv_iload_n hx hb dX10_image_257 rfl (lv_at hl 0 rfl) ?_
  refine lv_bipush (v := 8) hx hb dX10_image_258 (by decide) ?_
  refine lv_icmp_ge (tgt := 293) hx hb dX10_image_260 (by decide) (fun c51_ => absurd c51_ (by decide)) (fun c51_ => ?_)
  refine lv_aload_n hx hb dX10_image_263 rfl (lv_at hl 1 rfl) ?_
  refine zget hx hb ht inlX10 hown hK hW 0 rfl rfl 67 (by decide) zm_207 rfl dX10_image_264 ?_
  refine lv_iload_n hx hb dX10_image_267 rfl (lv_at hl 0 rfl) ?_
  refine lv_aload_n hx hb dX10_image_268 rfl (lv_at hl 1 rfl) ?_
  refine zget hx hb ht inlX10 hown hK hW 0 rfl rfl 44 (by decide) zm_184 rfl dX10_image_269 ?_
  refine lv_iload_n hx hb dX10_image_272 rfl (lv_at hl 0 rfl) ?_
  refine ziald (v := 0) hx hb hK hW 11 rfl (by unfold vp_in; decide) rfl dX10_image_273 ?_
  refine ziast0 hx hb hK hS hW 22 rfl (by unfold vp_in; decide) (zupd0 _) dX10_image_274 (fun H locs hW hS => ?_)
  refine lv_aload_n hx hb dX10_image_275 rfl (lv_at hl 1 rfl) ?_
  refine zget hx hb ht inlX10 hown hK hW 0 rfl rfl 68 (by decide) zm_208 rfl dX10_image_276 ?_
  refine lv_iload_n hx hb dX10_image_279 rfl (lv_at hl 0 rfl) ?_
  refine lv_aload_n hx hb dX10_image_280 rfl (lv_at hl 1 rfl) ?_
  refine zget hx hb ht inlX10 hown hK hW 0 rfl rfl 45 (by decide) zm_185 rfl dX10_image_281 ?_
  refine lv_iload_n hx hb dX10_image_284 rfl (lv_at hl 0 rfl) ?_
  refine ziald (v := 0) hx hb hK hW 12 rfl (by unfold vp_in; decide) rfl dX10_image_285 ?_
  refine ziast0 hx hb hK hS hW 23 rfl (by unfold vp_in; decide) (zupd0 _) dX10_image_286 (fun H locs hW hS => ?_)
  refine lv_iinc (k := 0) (v := 7) (lv' := [(1, .int 7), (0, .ref a0)]) hx hb dX10_image_287 hl rfl (by decide) (by decide) rfl (fun ls hl => ?_)
  refine lv_goto (tgt := 257) hx hb dX10_image_290 (by decide) ?_
  refine lv_iload_n hx hb dX10_image_257 rfl (lv_at hl 0 rfl) ?_
  refine lv_bipush (v := 8) hx hb dX10_image_258 (by decide) ?_
  refine lv_icmp_ge (tgt := 293) hx hb dX10_image_260 (by decide) (fun c52_ => absurd c52_ (by decide)) (fun c52_ => ?_)
  refine lv_aload_n hx hb dX10_image_263 rfl (lv_at hl 1 rfl) ?_
  refine zget hx hb ht inlX10 hown hK hW 0 rfl rfl 67 (by decide) zm_207 rfl dX10_image_264 ?_
  refine lv_iload_n hx hb dX10_image_267 rfl (lv_at hl 0 rfl) ?_
  refine lv_aload_n hx hb dX10_image_268 rfl (lv_at hl 1 rfl) ?_
  refine zget hx hb ht inlX10 hown hK hW 0 rfl rfl 44 (by decide) zm_184 rfl dX10_image_269 ?_
  refine lv_iload_n hx hb dX10_image_272 rfl (lv_at hl 0 rfl) ?_
  refine ziald (v := 0) hx hb hK hW 11 rfl (by unfold vp_in; decide) rfl dX10_image_273 ?_
  refine ziast0 hx hb hK hS hW 22 rfl (by unfold vp_in; decide) (zupd0 _) dX10_image_274 (fun H locs hW hS => ?_)
  refine lv_aload_n hx hb dX10_image_275 rfl (lv_at hl 1 rfl) ?_
  refine zget hx hb ht inlX10 hown hK hW 0 rfl rfl 68 (by decide) zm_208 rfl dX10_image_276 ?_
  refine lv_iload_n hx hb dX10_image_279 rfl (lv_at hl 0 rfl) ?_
  refine lv_aload_n hx hb dX10_image_280 rfl (lv_at hl 1 rfl) ?_
  refine zget hx hb ht inlX10 hown hK hW 0 rfl rfl 45 (by decide) zm_185 rfl dX10_image_281 ?_
  refine lv_iload_n hx hb dX10_image_284 rfl (lv_at hl 0 rfl) ?_
  refine ziald (v := 0) hx hb hK hW 12 rfl (by unfold vp_in; decide) rfl dX10_image_285 ?_
  refine ziast0 hx hb hK hS hW 23 rfl (by unfold vp_in; decide) (zupd0 _) dX10_image_286 (fun H locs hW hS => ?_)
  refine lv_iinc (k := 0) (v := 8) (lv' := [(1, .int 8), (0, .ref a0)]) hx hb dX10_image_287 hl rfl (by decide) (by decide) rfl (fun ls hl => ?_)
  refine lv_goto (tgt := 257) hx hb dX10_image_290 (by decide) ?_
  refine lv_iload_n hx hb dX10_image_257 rfl (lv_at hl 0 rfl) ?_
  refine lv_bipush (v := 8) hx hb dX10_image_258 (by decide) ?_
  refine lv_icmp_ge (tgt := 293) hx hb dX10_image_260 (by decide) (fun c53_ => ?_) (fun c53_ => absurd (by decide) c53_)
  refine lv_aload_n hx hb dX10_image_293 rfl (lv_at hl 1 rfl) ?_
  refine zget hx hb ht inlX10 hown hK hW 0 rfl rfl 0 (by decide) zm_140 rfl dX10_image_294 ?_
  exact zret_i (v := 0) hx hb hr hlocks hS () rfl (hW.sub [] (by decide) rfl) (Nat.le_of_ble_eq_true rfl) (Nat.le_of_ble_eq_true rfl) dX10_image_297
set_option maxHeartbeats 8000000 in
set_option maxRecDepth 100000 in
theorem zc_X9_undo_0 (l : Launch) (D : va_G) (y : Nat → ClassId) (a0 : Nat) (w1 : Value) (w2 : Value) (w3 : Value) (w4 : Value) (w5 : Value) (w6 : Value) (w7 : Value) (w8 : Value) : zM l D y yX9_undo (Cond.code yX9_undo cX9_undo 1 (some .int) :: zT) { frames := 0, cells := 0, slots := 0, locals := 0 } [.ref a0] [(a0, .inr (8, [w1, w2, w3, w4, w5, .int 0, w6, w7, w8]))] (zQi (S := Unit) D (fun r_ _ => r_ = (-3)) (fun _ => [])) := by
  refine zent (cc := cX9_undo) (maxL := 1) (ret := (some .int)) (by decide) (Nat.le_of_ble_eq_true rfl) ?_
  intro p e s m below meth c A H locs ls hx hb hml hr ht hown hlocks hin hA hK hE hS hW hl
  have hown : s.vm.findClass RX9 = some m.cls := hown
  have hW : zPD D A [(a0, .inr (8, [w1, w2, w3, w4, w5, .int 0, w6, w7, w8]))] H := hW
  have hl : lv_has ls 1 [(0, .ref a0)] := hl
  refine lv_aload_n hx hb dX9_undo_0 rfl (lv_at hl 0 rfl) ?_
  refine zget hx hb ht inlX9 hown hK hW 0 rfl rfl 5 (by decide) zm_25 rfl dX9_undo_1 ?_
  refine lv_if_ne (tgt := 10) hx hb dX9_undo_4 (by decide) (fun c1_ => absurd (by decide) c1_) (fun c1_ => ?_)
  refine lv_bipush (v := (-3)) hx hb dX9_undo_7 (by decide) ?_
  exact zret_i (v := (-3)) hx hb hr hlocks hS () rfl (hW.sub [] (by decide) rfl) (Nat.le_of_ble_eq_true rfl) (Nat.le_of_ble_eq_true rfl) dX9_undo_9
set_option maxHeartbeats 8000000 in
set_option maxRecDepth 100000 in
theorem zc_X10_undo_0 (l : Launch) (D : va_G) (y : Nat → ClassId) (a0 : Nat) (w1 : Value) (w2 : Value) (w3 : Value) (w4 : Value) (w5 : Value) (w6 : Value) (w7 : Value) (w8 : Value) (w9 : Value) (w10 : Value) (w11 : Value) (w12 : Value) (w13 : Value) (w14 : Value) (w15 : Value) (w16 : Value) (w17 : Value) (w18 : Value) (w19 : Value) (w20 : Value) (w21 : Value) (w22 : Value) (w23 : Value) (w24 : Value) (w25 : Value) (w26 : Value) (w27 : Value) (w28 : Value) (w29 : Value) (w30 : Value) (w31 : Value) (w32 : Value) (w33 : Value) (w34 : Value) (w35 : Value) (w36 : Value) (w37 : Value) (w38 : Value) (w39 : Value) (w40 : Value) (w41 : Value) (w42 : Value) (w43 : Value) (w44 : Value) (w45 : Value) (w46 : Value) (w47 : Value) (w48 : Value) (w49 : Value) (w50 : Value) (w51 : Value) (w52 : Value) (w53 : Value) (w54 : Value) (w55 : Value) (w56 : Value) (w57 : Value) (w58 : Value) (w59 : Value) (w60 : Value) (w61 : Value) (w62 : Value) (w63 : Value) (w64 : Value) (w65 : Value) (w66 : Value) (w67 : Value) (w68 : Value) (w69 : Value) (w70 : Value) (w71 : Value) (w72 : Value) (w73 : Value) (w74 : Value) (w75 : Value) : zM l D y yX10_undo (Cond.code yX10_undo cX10_undo 2 (some .int) :: zT) { frames := 0, cells := 0, slots := 0, locals := 0 } [.ref a0] [(a0, .inr (9, [w1, w2, w3, w4, w5, w6, w7, w8, w9, w10, w11, w12, w13, w14, w15, w16, w17, w18, w19, w20, w21, w22, w23, w24, w25, w26, w27, w28, w29, w30, w31, w32, w33, w34, w35, w36, w37, w38, w39, w40, w41, w42, w43, w44, w45, w46, .int 0, w47, w48, w49, w50, w51, w52, w53, w54, w55, w56, w57, w58, w59, w60, w61, w62, w63, w64, w65, w66, w67, w68, w69, w70, w71, w72, w73, w74, w75]))] (zQi (S := Unit) D (fun r_ _ => r_ = (-3)) (fun _ => [])) := by
  refine zent (cc := cX10_undo) (maxL := 2) (ret := (some .int)) (by decide) (Nat.le_of_ble_eq_true rfl) ?_
  intro p e s m below meth c A H locs ls hx hb hml hr ht hown hlocks hin hA hK hE hS hW hl
  have hown : s.vm.findClass RX10 = some m.cls := hown
  have hW : zPD D A [(a0, .inr (9, [w1, w2, w3, w4, w5, w6, w7, w8, w9, w10, w11, w12, w13, w14, w15, w16, w17, w18, w19, w20, w21, w22, w23, w24, w25, w26, w27, w28, w29, w30, w31, w32, w33, w34, w35, w36, w37, w38, w39, w40, w41, w42, w43, w44, w45, w46, .int 0, w47, w48, w49, w50, w51, w52, w53, w54, w55, w56, w57, w58, w59, w60, w61, w62, w63, w64, w65, w66, w67, w68, w69, w70, w71, w72, w73, w74, w75]))] H := hW
  have hl : lv_has ls 2 [(0, .ref a0)] := hl
  refine lv_aload_n hx hb dX10_undo_0 rfl (lv_at hl 0 rfl) ?_
  refine zget hx hb ht inlX10 hown hK hW 0 rfl rfl 46 (by decide) zm_186 rfl dX10_undo_1 ?_
  refine lv_if_ne (tgt := 10) hx hb dX10_undo_4 (by decide) (fun c1_ => absurd (by decide) c1_) (fun c1_ => ?_)
  refine lv_bipush (v := (-3)) hx hb dX10_undo_7 (by decide) ?_
  exact zret_i (v := (-3)) hx hb hr hlocks hS () rfl (hW.sub [] (by decide) rfl) (Nat.le_of_ble_eq_true rfl) (Nat.le_of_ble_eq_true rfl) dX10_undo_9
set_option maxHeartbeats 8000000 in
set_option maxRecDepth 100000 in
theorem zc_X9_act_0 (l : Launch) (D : va_G) (y : Nat → ClassId) (a0 : Nat) (p1 : Int32) (p2 : Int32) (p3 : Int32) (w4 : Value) (w5 : Value) (w6 : Value) (a7 : Nat) (w8 : Value) (w9 : Value) (w10 : Value) (a11 : Nat) (w12 : Value) (w13 : Value) (w14 : Value) (w15 : Value) (w16 : Value) (w17 : Value) (w18 : Value) (w19 : Value) (w20 : Value) (w21 : Value) (w22 : Value) (w23 : Value) (w24 : Value) (w25 : Value) (w26 : Value) (w27 : Value) : zM l D y yX9_act (Cond.code yX9_act cX9_act 4 (some .int) :: zT) { frames := 1, cells := 0, slots := 0, locals := 21 } [.ref a0, .int p1, .int p2, .int p3] [(a0, .inr (8, [w4, w5, w6, .ref a7, w8, w9, w10, .ref a11, w12])), (a7, .inr (6, [w13, .int 0, w14, w15, w16, w17, w18, w19, w20, w21, w22, w23])), (a11, .inr (0, [w24, .int 0, w25, w26, w27]))] (zQi (S := Unit) D (fun r_ _ => r_ = 0) (fun _ => [])) := by
  refine zent (cc := cX9_act) (maxL := 4) (ret := (some .int)) (by decide) (Nat.le_of_ble_eq_true rfl) ?_
  intro p e s m below meth c A H locs ls hx hb hml hr ht hown hlocks hin hA hK hE hS hW hl
  have hown : s.vm.findClass RX9 = some m.cls := hown
  have hW : zPD D A [(a0, .inr (8, [w4, w5, w6, .ref a7, w8, w9, w10, .ref a11, w12])), (a7, .inr (6, [w13, .int 0, w14, w15, w16, w17, w18, w19, w20, w21, w22, w23])), (a11, .inr (0, [w24, .int 0, w25, w26, w27]))] H := hW
  have hl : lv_has ls 4 [(0, .ref a0), (1, .int p1), (2, .int p2), (3, .int p3)] := hl
  refine lv_aload_n hx hb dX9_act_0 rfl (lv_at hl 0 rfl) ?_
  refine zget hx hb ht inlX9 hown hK hW 0 rfl rfl 7 (by decide) zm_33 rfl dX9_act_1 ?_
  refine lv_iconst (v := 0) hx hb dX9_act_4 (by decide) ?_
  refine zput (ws' := [(a0, .inr (8, [w4, w5, w6, .ref a7, w8, w9, w10, .ref a11, w12])), (a7, .inr (6, [w13, .int 0, w14, w15, w16, w17, w18, w19, w20, w21, w22, w23])), (a11, .inr (0, [w24, .int 0, w25, w26, w27]))]) hx hb ht inlX0 tyX0 tyX0_ok nmX0 hown hK hS hW 2 rfl rfl 1 (by decide) zm_1135 rfl rfl rfl (Nat.le_of_ble_eq_true rfl) rfl dX9_act_5 (fun H locs hW hS => ?_)
  refine lv_aload_n hx hb dX9_act_8 rfl (lv_at hl 0 rfl) ?_
  refine zget hx hb ht inlX9 hown hK hW 0 rfl rfl 3 (by decide) zm_23 rfl dX9_act_9 ?_
  refine lv_iload_n hx hb dX9_act_12 rfl (lv_at hl 1 rfl) ?_
  refine zgo_i (wr := [(a0, .inr (8, [w4, w5, w6, .ref a7, w8, w9, w10, .ref a11, w12])), (a11, .inr (0, [w24, .int 0, w25, w26, w27]))]) (zrunV (As := [.int p1]) (rest := []) ⟨hx, hb, hml, hown, ht⟩ (zc_X7_has_0 l D y a7 p1 w13 w14 w15 w16 w17 w18 w19 w20 w21 w22 w23) (cwV 1 ht (zgV zm_263 zm_264 zm_265 zm_22 zm_266) rfl rfl rfl (by decide +kernel) ⟨(Nat.le_of_ble_eq_true rfl), (Nat.le_of_ble_eq_true rfl)⟩) hK hE hS hA hW [1] (by decide) rfl 0 rfl rfl rfl rfl hl.1 rfl (Nat.le_of_ble_eq_true rfl) dX9_act_13 (Nat.le_of_ble_eq_true rfl) (Nat.le_of_ble_eq_true rfl)) hS hA hW [1] [0, 2] rfl rfl (by decide) (by decide) (fun r1_ u H locs hw hW hS => ?_)
  have hW : zPD D A [(a0, .inr (8, [w4, w5, w6, .ref a7, w8, w9, w10, .ref a11, w12])), (a11, .inr (0, [w24, .int 0, w25, w26, w27])), (a7, .inr (6, [w13, .int 0, w14, w15, w16, w17, w18, w19, w20, w21, w22, w23]))] H := hW
  have hw : r1_ = 0 := hw
  subst hw
  refine lv_if_eq (tgt := 28) hx hb dX9_act_16 (by decide) (fun c2_ => ?_) (fun c2_ => absurd (by decide) c2_)
  refine lv_iconst (v := 0) hx hb dX9_act_28 (by decide) ?_
  exact zret_i (v := 0) hx hb hr hlocks hS () rfl (hW.sub [] (by decide) rfl) (Nat.le_of_ble_eq_true rfl) (Nat.le_of_ble_eq_true rfl) dX9_act_29
set_option maxHeartbeats 8000000 in
set_option maxRecDepth 100000 in
theorem zc_X10_act_0 (l : Launch) (D : va_G) (y : Nat → ClassId) (a0 : Nat) (p1 : Int32) (p2 : Int32) (p3 : Int32) (w4 : Value) (w5 : Value) (w6 : Value) (w7 : Value) (w8 : Value) (w9 : Value) (w10 : Value) (w11 : Value) (w12 : Value) (w13 : Value) (w14 : Value) (w15 : Value) (w16 : Value) (w17 : Value) (w18 : Value) (w19 : Value) (w20 : Value) (w21 : Value) (w22 : Value) (w23 : Value) (w24 : Value) (w25 : Value) (w26 : Value) (w27 : Value) (w28 : Value) (w29 : Value) (w30 : Value) (w31 : Value) (w32 : Value) (w33 : Value) (w34 : Value) (w35 : Value) (w36 : Value) (w37 : Value) (w38 : Value) (w39 : Value) (w40 : Value) (w41 : Value) (w42 : Value) (w43 : Value) (w44 : Value) (w45 : Value) (w46 : Value) (w47 : Value) (w48 : Value) (w49 : Value) (w50 : Value) (w51 : Value) (w52 : Value) (w53 : Value) (w54 : Value) (w55 : Value) (w56 : Value) (w57 : Value) (w58 : Value) (w59 : Value) (w60 : Value) (w61 : Value) (w62 : Value) (w63 : Value) (w64 : Value) (w65 : Value) (w66 : Value) (w67 : Value) (w68 : Value) (w69 : Value) (w70 : Value) (w71 : Value) (w72 : Value) (w73 : Value) (w74 : Value) (w75 : Value) (w76 : Value) (w77 : Value) : zM l D y yX10_act (Cond.code yX10_act cX10_act 4 (some .int) :: zT) { frames := 2, cells := 0, slots := 0, locals := 44 } [.ref a0, .int p1, .int p2, .int p3] [(a0, .inr (9, [.int 0, w4, w5, w6, w7, w8, w9, w10, w11, w12, w13, w14, w15, w16, w17, w18, w19, w20, w21, w22, w23, w24, w25, w26, w27, w28, w29, w30, w31, w32, w33, w34, w35, w36, w37, w38, w39, w40, w41, w42, w43, w44, w45, w46, w47, w48, w49, w50, w51, w52, w53, w54, w55, w56, w57, w58, w59, w60, w61, w62, w63, w64, w65, w66, w67, w68, w69, w70, w71, w72, .int 0, w73, w74, w75, w76, w77]))] (zQi (S := Unit) D (fun r_ _ => r_ = 0) (fun _ => [])) := by
  refine zent (cc := cX10_act) (maxL := 4) (ret := (some .int)) (by decide) (Nat.le_of_ble_eq_true rfl) ?_
  intro p e s m below meth c A H locs ls hx hb hml hr ht hown hlocks hin hA hK hE hS hW hl
  have hown : s.vm.findClass RX10 = some m.cls := hown
  have hW : zPD D A [(a0, .inr (9, [.int 0, w4, w5, w6, w7, w8, w9, w10, w11, w12, w13, w14, w15, w16, w17, w18, w19, w20, w21, w22, w23, w24, w25, w26, w27, w28, w29, w30, w31, w32, w33, w34, w35, w36, w37, w38, w39, w40, w41, w42, w43, w44, w45, w46, w47, w48, w49, w50, w51, w52, w53, w54, w55, w56, w57, w58, w59, w60, w61, w62, w63, w64, w65, w66, w67, w68, w69, w70, w71, w72, .int 0, w73, w74, w75, w76, w77]))] H := hW
  have hl : lv_has ls 4 [(0, .ref a0), (1, .int p1), (2, .int p2), (3, .int p3)] := hl
  refine lv_aload_n hx hb dX10_act_0 rfl (lv_at hl 0 rfl) ?_
  refine lv_iconst (v := 0) hx hb dX10_act_1 (by decide) ?_
  refine zput (ws' := [(a0, .inr (9, [.int 0, w4, w5, w6, w7, w8, w9, w10, w11, w12, w13, w14, w15, w16, w17, w18, w19, w20, w21, w22, w23, w24, w25, w26, w27, w28, w29, w30, w31, w32, w33, w34, w35, w36, w37, w38, w39, w40, w41, w42, w43, w44, w45, w46, w47, w48, w49, w50, w51, w52, w53, w54, w55, w56, w57, w58, w59, w60, w61, w62, w63, w64, w65, w66, w67, w68, w69, w70, w71, w72, .int 0, w73, w74, w75, w76, w77]))]) hx hb ht inlX10 tyX10 tyX10_ok nmX10 hown hK hS hW 0 rfl rfl 70 (by decide) zm_210 rfl rfl rfl (Nat.le_of_ble_eq_true rfl) rfl dX10_act_2 (fun H locs hW hS => ?_)
  refine lv_aload_n hx hb dX10_act_5 rfl (lv_at hl 0 rfl) ?_
  refine lv_iload_n hx hb dX10_act_6 rfl (lv_at hl 1 rfl) ?_
  refine zgo_i (wr := []) (zrunV (As := [.int p1]) (rest := []) ⟨hx, hb, hml, hown, ht⟩ (zc_X10_isWindow_0 l D y a0 p1 w4 w5 w6 w7 w8 w9 w10 w11 w12 w13 w14 w15 w16 w17 w18 w19 w20 w21 w22 w23 w24 w25 w26 w27 w28 w29 w30 w31 w32 w33 w34 w35 w36 w37 w38 w39 w40 w41 w42 w43 w44 w45 w46 w47 w48 w49 w50 w51 w52 w53 w54 w55 w56 w57 w58 w59 w60 w61 w62 w63 w64 w65 w66 w67 w68 w69 w70 w71 w72 (.int 0) w73 w74 w75 w76 w77) (cwV 1 ht (zgV zm_353 zm_354 zm_355 zm_5 zm_356) rfl rfl rfl (by decide +kernel) ⟨(Nat.le_of_ble_eq_true rfl), (Nat.le_of_ble_eq_true rfl)⟩) hK hE hS hA hW [0] (by decide) rfl 0 rfl rfl rfl rfl hl.1 rfl (Nat.le_of_ble_eq_true rfl) dX10_act_7 (Nat.le_of_ble_eq_true rfl) (Nat.le_of_ble_eq_true rfl)) hS hA hW [0] [] rfl rfl (by decide) (by decide) (fun r1_ u H locs hw hW hS => ?_)
  have hW : zPD D A [(a0, .inr (9, [.int 0, w4, w5, w6, w7, w8, w9, w10, w11, w12, w13, w14, w15, w16, w17, w18, w19, w20, w21, w22, w23, w24, w25, w26, w27, w28, w29, w30, w31, w32, w33, w34, w35, w36, w37, w38, w39, w40, w41, w42, w43, w44, w45, w46, w47, w48, w49, w50, w51, w52, w53, w54, w55, w56, w57, w58, w59, w60, w61, w62, w63, w64, w65, w66, w67, w68, w69, w70, w71, w72, .int 0, w73, w74, w75, w76, w77]))] H := hW
  have hw : r1_ = 0 := hw
  subst hw
  refine lv_if_eq (tgt := 23) hx hb dX10_act_10 (by decide) (fun c2_ => ?_) (fun c2_ => absurd (by decide) c2_)
  refine lv_iconst (v := 0) hx hb dX10_act_23 (by decide) ?_
  exact zret_i (v := 0) hx hb hr hlocks hS () rfl (hW.sub [] (by decide) rfl) (Nat.le_of_ble_eq_true rfl) (Nat.le_of_ble_eq_true rfl) dX10_act_24
set_option maxHeartbeats 8000000 in
set_option maxRecDepth 100000 in
theorem zc_X9_trace_0 (l : Launch) (D : va_G) (y : Nat → ClassId) (a0 : Nat) (p1 : Int32) (w2 : Value) (w3 : Value) (w4 : Value) (w5 : Value) (w6 : Value) (w7 : Value) (w8 : Value) (a9 : Nat) (w10 : Value) (w11 : Value) (w12 : Value) (w13 : Value) (w14 : Value) : zM l D y yX9_trace (Cond.code yX9_trace cX9_trace 2 (some .int) :: zT) { frames := 0, cells := 0, slots := 0, locals := 0 } [.ref a0, .int p1] [(a0, .inr (8, [w2, w3, w4, w5, w6, w7, w8, .ref a9, w10])), (a9, .inr (0, [w11, .int 0, w12, w13, w14]))] (zQi (S := Unit) D (fun r_ _ => r_ = (-1)) (fun _ => [])) := by
  refine zent (cc := cX9_trace) (maxL := 2) (ret := (some .int)) (by decide) (Nat.le_of_ble_eq_true rfl) ?_
  intro p e s m below meth c A H locs ls hx hb hml hr ht hown hlocks hin hA hK hE hS hW hl
  have hown : s.vm.findClass RX9 = some m.cls := hown
  have hW : zPD D A [(a0, .inr (8, [w2, w3, w4, w5, w6, w7, w8, .ref a9, w10])), (a9, .inr (0, [w11, .int 0, w12, w13, w14]))] H := hW
  have hl : lv_has ls 2 [(0, .ref a0), (1, .int p1)] := hl
  refine lv_iload_n hx hb dX9_trace_0 rfl (lv_at hl 1 rfl) ?_
  refine lv_if_lt (tgt := 21) hx hb dX9_trace_1 (by decide) (fun c1_ => ?_) (fun c1_ => ?_)
  · have b2_ : (-2147483648) ≤ Int32.toInt p1 ∧ Int32.toInt p1 ≤ (-1) := (by have u0 := zbnd p1; have u1 := (zi_lt _ _).mp c1_; have u2 : (0 : Int32).toInt = 0 := (by decide); omega)
    refine lv_iconst (v := (-1)) hx hb dX9_trace_21 (by decide) ?_
    exact zret_i (v := (-1)) hx hb hr hlocks hS () rfl (hW.sub [] (by decide) rfl) (Nat.le_of_ble_eq_true rfl) (Nat.le_of_ble_eq_true rfl) dX9_trace_22
  · have b3_ : 0 ≤ Int32.toInt p1 ∧ Int32.toInt p1 ≤ 2147483647 := (by have u0 := zbnd p1; have u1 := (not_congr (zi_lt _ _)).mp c1_; have u2 : (0 : Int32).toInt = 0 := (by decide); omega)
    refine lv_iload_n hx hb dX9_trace_4 rfl (lv_at hl 1 rfl) ?_
    refine lv_aload_n hx hb dX9_trace_5 rfl (lv_at hl 0 rfl) ?_
    refine zget hx hb ht inlX9 hown hK hW 0 rfl rfl 7 (by decide) zm_33 rfl dX9_trace_6 ?_
    refine zget hx hb ht inlX0 hown hK hW 1 rfl rfl 1 (by decide) zm_1135 rfl dX9_trace_9 ?_
    refine lv_icmp_ge (tgt := 21) hx hb dX9_trace_12 (by decide) (fun c4_ => ?_) (fun c4_ => absurd (by have z0 := b3_; have e0 : (0 : Int32).toInt = 0 := (by decide); rw [zi_le]; omega) c4_)
    refine lv_iconst (v := (-1)) hx hb dX9_trace_21 (by decide) ?_
    exact zret_i (v := (-1)) hx hb hr hlocks hS () rfl (hW.sub [] (by decide) rfl) (Nat.le_of_ble_eq_true rfl) (Nat.le_of_ble_eq_true rfl) dX9_trace_22
set_option maxHeartbeats 8000000 in
set_option maxRecDepth 100000 in
theorem zc_X10_in_13 (l : Launch) (D : va_G) (y : Nat → ClassId) (a0 : Nat) (p1 : Int32) (w2 : Value) (w3 : Value) (w4 : Value) (w5 : Value) (w6 : Value) (w7 : Value) (w8 : Value) (w9 : Value) (w10 : Value) (w11 : Value) (w12 : Value) (w13 : Value) (w14 : Value) (w15 : Value) (w16 : Value) (w17 : Value) (w18 : Value) (w19 : Value) (w20 : Value) (w21 : Value) (w22 : Value) (w23 : Value) (w24 : Value) (w25 : Value) (w26 : Value) (w27 : Value) (w28 : Value) (w29 : Value) (w30 : Value) (w31 : Value) (w32 : Value) (w33 : Value) (w34 : Value) (w35 : Value) (w36 : Value) (w37 : Value) (w38 : Value) (w39 : Value) (w40 : Value) (w41 : Value) (w42 : Value) (w43 : Value) (w44 : Value) (w45 : Value) (w46 : Value) (w47 : Value) (w48 : Value) (w49 : Value) (w50 : Value) (w51 : Value) (w52 : Value) (w53 : Value) (w54 : Value) (w55 : Value) (w56 : Value) (w57 : Value) (w58 : Value) (w59 : Value) (w60 : Value) (w61 : Value) (w62 : Value) (w63 : Value) (w64 : Value) (w65 : Value) (w66 : Value) (w67 : Value) (w68 : Value) (w69 : Value) (w70 : Value) (w71 : Value) (w72 : Value) (w73 : Value) (w74 : Value) (w75 : Value) (w76 : Value) (w77 : Value) : zM l D y yX10_in (Cond.code yX10_in cX10_in 4 (some .boolean) :: zT) { frames := 0, cells := 0, slots := 0, locals := 0 } [.ref a0, .int p1, .int 0, .int 19] [(a0, .inr (9, [w2, w3, w4, w5, w6, w7, w8, w9, w10, w11, w12, w13, w14, w15, w16, w17, w18, w19, w20, w21, w22, w23, w24, w25, w26, w27, w28, w29, w30, w31, w32, w33, w34, w35, w36, w37, w38, w39, w40, w41, w42, w43, w44, w45, w46, w47, w48, w49, w50, w51, w52, w53, w54, w55, w56, w57, w58, w59, w60, w61, w62, w63, w64, w65, w66, w67, w68, w69, w70, w71, w72, w73, w74, w75, w76, w77]))] (zQi (S := Unit) D (fun r_ _ => r_ = (if p1 < 0 then 0 else (if 19 < p1 then 0 else 1))) (fun _ => [(a0, .inr (9, [w2, w3, w4, w5, w6, w7, w8, w9, w10, w11, w12, w13, w14, w15, w16, w17, w18, w19, w20, w21, w22, w23, w24, w25, w26, w27, w28, w29, w30, w31, w32, w33, w34, w35, w36, w37, w38, w39, w40, w41, w42, w43, w44, w45, w46, w47, w48, w49, w50, w51, w52, w53, w54, w55, w56, w57, w58, w59, w60, w61, w62, w63, w64, w65, w66, w67, w68, w69, w70, w71, w72, w73, w74, w75, w76, w77]))])) := by
  refine zent (cc := cX10_in) (maxL := 4) (ret := (some .boolean)) (by decide) (Nat.le_of_ble_eq_true rfl) ?_
  intro p e s m below meth c A H locs ls hx hb hml hr ht hown hlocks hin hA hK hE hS hW hl
  have hown : s.vm.findClass RX10 = some m.cls := hown
  have hW : zPD D A [(a0, .inr (9, [w2, w3, w4, w5, w6, w7, w8, w9, w10, w11, w12, w13, w14, w15, w16, w17, w18, w19, w20, w21, w22, w23, w24, w25, w26, w27, w28, w29, w30, w31, w32, w33, w34, w35, w36, w37, w38, w39, w40, w41, w42, w43, w44, w45, w46, w47, w48, w49, w50, w51, w52, w53, w54, w55, w56, w57, w58, w59, w60, w61, w62, w63, w64, w65, w66, w67, w68, w69, w70, w71, w72, w73, w74, w75, w76, w77]))] H := hW
  have hl : lv_has ls 4 [(0, .ref a0), (1, .int p1), (2, .int 0), (3, .int 19)] := hl
  refine lv_iload_n hx hb dX10_in_0 rfl (lv_at hl 1 rfl) ?_
  refine lv_iload_n hx hb dX10_in_1 rfl (lv_at hl 2 rfl) ?_
  refine lv_icmp_lt (tgt := 14) hx hb dX10_in_2 (by decide) (fun c1_ => ?_) (fun c1_ => ?_)
  · have b2_ : (-2147483648) ≤ Int32.toInt p1 ∧ Int32.toInt p1 ≤ (-1) := (by have u0 := zbnd p1; have u1 := (zi_lt _ _).mp c1_; have u2 : (0 : Int32).toInt = 0 := (by decide); omega)
    refine lv_iconst (v := 0) hx hb dX10_in_14 (by decide) ?_
    exact zret_z (v := 0) hx hb hr hlocks hS () rfl (by show _ = _; rw [if_pos c1_]) hW (Nat.le_of_ble_eq_true rfl) (Nat.le_of_ble_eq_true rfl) dX10_in_15
  · have b3_ : 0 ≤ Int32.toInt p1 ∧ Int32.toInt p1 ≤ 2147483647 := (by have u0 := zbnd p1; have u1 := (not_congr (zi_lt _ _)).mp c1_; have u2 : (0 : Int32).toInt = 0 := (by decide); omega)
    refine lv_iload_n hx hb dX10_in_5 rfl (lv_at hl 1 rfl) ?_
    refine lv_iload_n hx hb dX10_in_6 rfl (lv_at hl 3 rfl) ?_
    refine lv_icmp_gt (tgt := 14) hx hb dX10_in_7 (by decide) (fun c4_ => ?_) (fun c4_ => ?_)
    · have b5_ : 20 ≤ Int32.toInt p1 ∧ Int32.toInt p1 ≤ 2147483647 := (by have u0 := b3_; have u1 := (zi_lt _ _).mp c4_; have u2 : (19 : Int32).toInt = 19 := (by decide); omega)
      refine lv_iconst (v := 0) hx hb dX10_in_14 (by decide) ?_
      exact zret_z (v := 0) hx hb hr hlocks hS () rfl (by show _ = _; rw [if_neg c1_, if_pos c4_]) hW (Nat.le_of_ble_eq_true rfl) (Nat.le_of_ble_eq_true rfl) dX10_in_15
    · have b6_ : 0 ≤ Int32.toInt p1 ∧ Int32.toInt p1 ≤ 19 := (by have u0 := b3_; have u1 := (not_congr (zi_lt _ _)).mp c4_; have u2 : (19 : Int32).toInt = 19 := (by decide); omega)
      refine lv_iconst (v := 1) hx hb dX10_in_10 (by decide) ?_
      refine lv_goto (tgt := 15) hx hb dX10_in_11 (by decide) ?_
      exact zret_z (v := 1) hx hb hr hlocks hS () rfl (by show _ = _; rw [if_neg c1_, if_neg c4_]) hW (Nat.le_of_ble_eq_true rfl) (Nat.le_of_ble_eq_true rfl) dX10_in_15
set_option maxHeartbeats 8000000 in
set_option maxRecDepth 100000 in
theorem zc_X10_trace_0 (l : Launch) (D : va_G) (y : Nat → ClassId) (a0 : Nat) (p1 : Int32) (w2 : Value) (w3 : Value) (w4 : Value) (w5 : Value) (w6 : Value) (w7 : Value) (w8 : Value) (w9 : Value) (w10 : Value) (w11 : Value) (w12 : Value) (w13 : Value) (w14 : Value) (w15 : Value) (w16 : Value) (w17 : Value) (w18 : Value) (w19 : Value) (w20 : Value) (w21 : Value) (w22 : Value) (w23 : Value) (w24 : Value) (w25 : Value) (w26 : Value) (w27 : Value) (w28 : Value) (w29 : Value) (w30 : Value) (w31 : Value) (w32 : Value) (w33 : Value) (w34 : Value) (w35 : Value) (w36 : Value) (w37 : Value) (w38 : Value) (w39 : Value) (w40 : Value) (w41 : Value) (w42 : Value) (w43 : Value) (w44 : Value) (w45 : Value) (w46 : Value) (w47 : Value) (w48 : Value) (w49 : Value) (w50 : Value) (w51 : Value) (w52 : Value) (w53 : Value) (w54 : Value) (w55 : Value) (w56 : Value) (w57 : Value) (w58 : Value) (w59 : Value) (w60 : Value) (w61 : Value) (w62 : Value) (w63 : Value) (w64 : Value) (w65 : Value) (w66 : Value) (w67 : Value) (w68 : Value) (w69 : Value) (w70 : Value) (w71 : Value) (w72 : Value) (w73 : Value) (w74 : Value) (w75 : Value) (w76 : Value) : zM l D y yX10_trace (Cond.code yX10_trace cX10_trace 2 (some .int) :: zT) { frames := 1, cells := 0, slots := 0, locals := 23 } [.ref a0, .int p1] [(a0, .inr (9, [w2, w3, w4, w5, w6, w7, w8, w9, w10, w11, w12, w13, w14, w15, w16, w17, w18, w19, w20, w21, w22, w23, w24, w25, w26, w27, w28, w29, w30, w31, w32, w33, w34, w35, w36, w37, w38, w39, w40, w41, w42, w43, w44, w45, w46, w47, w48, w49, w50, w51, w52, w53, w54, w55, w56, w57, w58, w59, w60, w61, w62, w63, w64, w65, w66, w67, w68, w69, w70, w71, .int 0, w72, w73, w74, w75, w76]))] (zQi (S := Unit) D (fun r_ _ => r_ = (-1)) (fun _ => [])) := by
  refine zent (cc := cX10_trace) (maxL := 2) (ret := (some .int)) (by decide) (Nat.le_of_ble_eq_true rfl) ?_
  intro p e s m below meth c A H locs ls hx hb hml hr ht hown hlocks hin hA hK hE hS hW hl
  have hown : s.vm.findClass RX10 = some m.cls := hown
  have hW : zPD D A [(a0, .inr (9, [w2, w3, w4, w5, w6, w7, w8, w9, w10, w11, w12, w13, w14, w15, w16, w17, w18, w19, w20, w21, w22, w23, w24, w25, w26, w27, w28, w29, w30, w31, w32, w33, w34, w35, w36, w37, w38, w39, w40, w41, w42, w43, w44, w45, w46, w47, w48, w49, w50, w51, w52, w53, w54, w55, w56, w57, w58, w59, w60, w61, w62, w63, w64, w65, w66, w67, w68, w69, w70, w71, .int 0, w72, w73, w74, w75, w76]))] H := hW
  have hl : lv_has ls 2 [(0, .ref a0), (1, .int p1)] := hl
  refine lv_aload_n hx hb dX10_trace_0 rfl (lv_at hl 0 rfl) ?_
  refine lv_iload_n hx hb dX10_trace_1 rfl (lv_at hl 1 rfl) ?_
  refine lv_iconst (v := 0) hx hb dX10_trace_2 (by decide) ?_
  refine lv_bipush (v := 19) hx hb dX10_trace_3 (by decide) ?_
  refine zgo_i (wr := []) (zrunV (As := [.int p1, .int 0, .int 19]) (rest := []) ⟨hx, hb, hml, hown, ht⟩ (zc_X10_in_13 l D y a0 p1 w2 w3 w4 w5 w6 w7 w8 w9 w10 w11 w12 w13 w14 w15 w16 w17 w18 w19 w20 w21 w22 w23 w24 w25 w26 w27 w28 w29 w30 w31 w32 w33 w34 w35 w36 w37 w38 w39 w40 w41 w42 w43 w44 w45 w46 w47 w48 w49 w50 w51 w52 w53 w54 w55 w56 w57 w58 w59 w60 w61 w62 w63 w64 w65 w66 w67 w68 w69 w70 w71 (.int 0) w72 w73 w74 w75 w76) (cwV 3 ht (zgV zm_240 zm_241 zm_242 zm_5 zm_243) rfl rfl rfl (by decide +kernel) ⟨(Nat.le_of_ble_eq_true rfl), (Nat.le_of_ble_eq_true rfl)⟩) hK hE hS hA hW [0] (by decide) rfl 0 rfl rfl rfl rfl hl.1 rfl (Nat.le_of_ble_eq_true rfl) dX10_trace_5 (Nat.le_of_ble_eq_true rfl) (Nat.le_of_ble_eq_true rfl)) hS hA hW [0] [] rfl rfl (by decide) (by decide) (fun r1_ u H locs hw hW hS => ?_)
  have hW : zPD D A [(a0, .inr (9, [w2, w3, w4, w5, w6, w7, w8, w9, w10, w11, w12, w13, w14, w15, w16, w17, w18, w19, w20, w21, w22, w23, w24, w25, w26, w27, w28, w29, w30, w31, w32, w33, w34, w35, w36, w37, w38, w39, w40, w41, w42, w43, w44, w45, w46, w47, w48, w49, w50, w51, w52, w53, w54, w55, w56, w57, w58, w59, w60, w61, w62, w63, w64, w65, w66, w67, w68, w69, w70, w71, .int 0, w72, w73, w74, w75, w76]))] H := hW
  have hw : r1_ = (if p1 < 0 then 0 else (if 19 < p1 then 0 else 1)) := hw
  by_cases c2_ : p1 < 0
  · have b3_ : (-2147483648) ≤ Int32.toInt p1 ∧ Int32.toInt p1 ≤ (-1) := (by have u0 := zbnd p1; have u1 := (zi_lt _ _).mp c2_; have u2 : (0 : Int32).toInt = 0 := (by decide); omega)
    rw [if_pos c2_] at hw
    subst hw
    refine lv_if_eq (tgt := 28) hx hb dX10_trace_8 (by decide) (fun c4_ => ?_) (fun c4_ => absurd (by decide) c4_)
    refine lv_iconst (v := (-1)) hx hb dX10_trace_28 (by decide) ?_
    exact zret_i (v := (-1)) hx hb hr hlocks hS () rfl (hW.sub [] (by decide) rfl) (Nat.le_of_ble_eq_true rfl) (Nat.le_of_ble_eq_true rfl) dX10_trace_29
  · have b5_ : 0 ≤ Int32.toInt p1 ∧ Int32.toInt p1 ≤ 2147483647 := (by have u0 := zbnd p1; have u1 := (not_congr (zi_lt _ _)).mp c2_; have u2 : (0 : Int32).toInt = 0 := (by decide); omega)
    rw [if_neg c2_] at hw
    by_cases c6_ : 19 < p1
    · have b7_ : 20 ≤ Int32.toInt p1 ∧ Int32.toInt p1 ≤ 2147483647 := (by have u0 := b5_; have u1 := (zi_lt _ _).mp c6_; have u2 : (19 : Int32).toInt = 19 := (by decide); omega)
      rw [if_pos c6_] at hw
      subst hw
      refine lv_if_eq (tgt := 28) hx hb dX10_trace_8 (by decide) (fun c8_ => ?_) (fun c8_ => absurd (by decide) c8_)
      refine lv_iconst (v := (-1)) hx hb dX10_trace_28 (by decide) ?_
      exact zret_i (v := (-1)) hx hb hr hlocks hS () rfl (hW.sub [] (by decide) rfl) (Nat.le_of_ble_eq_true rfl) (Nat.le_of_ble_eq_true rfl) dX10_trace_29
    · have b9_ : 0 ≤ Int32.toInt p1 ∧ Int32.toInt p1 ≤ 19 := (by have u0 := b5_; have u1 := (not_congr (zi_lt _ _)).mp c6_; have u2 : (19 : Int32).toInt = 19 := (by decide); omega)
      rw [if_neg c6_] at hw
      subst hw
      refine lv_if_eq (tgt := 28) hx hb dX10_trace_8 (by decide) (fun c10_ => absurd c10_ (by decide)) (fun c10_ => ?_)
      refine lv_iload_n hx hb dX10_trace_11 rfl (lv_at hl 1 rfl) ?_
      refine lv_aload_n hx hb dX10_trace_12 rfl (lv_at hl 0 rfl) ?_
      refine zget hx hb ht inlX10 hown hK hW 0 rfl rfl 70 (by decide) zm_210 rfl dX10_trace_13 ?_
      refine lv_icmp_ge (tgt := 28) hx hb dX10_trace_16 (by decide) (fun c11_ => ?_) (fun c11_ => absurd (by have z0 := b9_; have e0 : (0 : Int32).toInt = 0 := (by decide); rw [zi_le]; omega) c11_)
      refine lv_iconst (v := (-1)) hx hb dX10_trace_28 (by decide) ?_
      exact zret_i (v := (-1)) hx hb hr hlocks hS () rfl (hW.sub [] (by decide) rfl) (Nat.le_of_ble_eq_true rfl) (Nat.le_of_ble_eq_true rfl) dX10_trace_29
set_option maxHeartbeats 8000000 in
set_option maxRecDepth 100000 in
theorem zc_X9_taken_0 (l : Launch) (D : va_G) (y : Nat → ClassId) (a0 : Nat) (p1 : Int32) (p2 : Int32) (w3 : Value) (w4 : Value) (w5 : Value) (a6 : Nat) (w7 : Value) (w8 : Value) (w9 : Value) (w10 : Value) (w11 : Value) (w12 : Value) (w13 : Value) (w14 : Value) (w15 : Value) (w16 : Value) (w17 : Value) (w18 : Value) (w19 : Value) (w20 : Value) (w21 : Value) (w22 : Value) : zM l D y yX9_taken (Cond.code yX9_taken cX9_taken 4 (some .int) :: zT) { frames := 1, cells := 0, slots := 0, locals := 22 } [.ref a0, .int p1, .int p2] [(a0, .inr (8, [w3, w4, w5, .ref a6, w7, w8, w9, w10, w11])), (a6, .inr (6, [w12, .int 0, w13, w14, w15, w16, w17, w18, w19, w20, w21, w22]))] (zQi (S := Unit) D (fun r_ _ => r_ = (if p2 < 0 then (-2) else (if 6 < p2 then (-2) else (-11)))) (fun _ => [])) := by
  refine zent (cc := cX9_taken) (maxL := 4) (ret := (some .int)) (by decide) (Nat.le_of_ble_eq_true rfl) ?_
  intro p e s m below meth c A H locs ls hx hb hml hr ht hown hlocks hin hA hK hE hS hW hl
  have hown : s.vm.findClass RX9 = some m.cls := hown
  have hW : zPD D A [(a0, .inr (8, [w3, w4, w5, .ref a6, w7, w8, w9, w10, w11])), (a6, .inr (6, [w12, .int 0, w13, w14, w15, w16, w17, w18, w19, w20, w21, w22]))] H := hW
  have hl : lv_has ls 4 [(0, .ref a0), (1, .int p1), (2, .int p2)] := hl
  refine lv_iload_n hx hb dX9_taken_0 rfl (lv_at hl 2 rfl) ?_
  refine lv_iconst (v := 0) hx hb dX9_taken_1 (by decide) ?_
  refine lv_bipush (v := 6) hx hb dX9_taken_2 (by decide) ?_
  refine zgo0_i (zrunS (As := [.int p2, .int 0, .int 6]) (rest := []) ⟨hx, hb, hml, hown, ht⟩ (zc_X9_within_0 l D y p2) (va_cwS 3 ht (zgS zm_222 zm_223 zm_2 zm_224) rfl rfl rfl (by decide +kernel) ⟨(Nat.le_of_ble_eq_true rfl), (Nat.le_of_ble_eq_true rfl)⟩) hK hE hS hA hW [] (by decide) rfl rfl hl.1 rfl (Nat.le_of_ble_eq_true rfl) dX9_taken_4 (Nat.le_of_ble_eq_true rfl) (Nat.le_of_ble_eq_true rfl)) hS hA hW (fun r1_ u H locs hw hW hS => ?_)
  have hw : r1_ = (if p2 < 0 then 0 else (if 6 < p2 then 0 else 1)) := hw
  by_cases c2_ : p2 < 0
  · have b3_ : (-2147483648) ≤ Int32.toInt p2 ∧ Int32.toInt p2 ≤ (-1) := (by have u0 := zbnd p2; have u1 := (zi_lt _ _).mp c2_; have u2 : (0 : Int32).toInt = 0 := (by decide); omega)
    rw [if_pos c2_] at hw
    subst hw
    refine lv_if_ne (tgt := 13) hx hb dX9_taken_7 (by decide) (fun c4_ => absurd (by decide) c4_) (fun c4_ => ?_)
    refine lv_bipush (v := (-2)) hx hb dX9_taken_10 (by decide) ?_
    exact zret_i (v := (-2)) hx hb hr hlocks hS () (by show _ = _; rw [if_pos c2_]) (hW.sub [] (by decide) rfl) (Nat.le_of_ble_eq_true rfl) (Nat.le_of_ble_eq_true rfl) dX9_taken_12
  · have b5_ : 0 ≤ Int32.toInt p2 ∧ Int32.toInt p2 ≤ 2147483647 := (by have u0 := zbnd p2; have u1 := (not_congr (zi_lt _ _)).mp c2_; have u2 : (0 : Int32).toInt = 0 := (by decide); omega)
    rw [if_neg c2_] at hw
    by_cases c6_ : 6 < p2
    · have b7_ : 7 ≤ Int32.toInt p2 ∧ Int32.toInt p2 ≤ 2147483647 := (by have u0 := b5_; have u1 := (zi_lt _ _).mp c6_; have u2 : (6 : Int32).toInt = 6 := (by decide); omega)
      rw [if_pos c6_] at hw
      subst hw
      refine lv_if_ne (tgt := 13) hx hb dX9_taken_7 (by decide) (fun c8_ => absurd (by decide) c8_) (fun c8_ => ?_)
      refine lv_bipush (v := (-2)) hx hb dX9_taken_10 (by decide) ?_
      exact zret_i (v := (-2)) hx hb hr hlocks hS () (by show _ = _; rw [if_neg c2_, if_pos c6_]) (hW.sub [] (by decide) rfl) (Nat.le_of_ble_eq_true rfl) (Nat.le_of_ble_eq_true rfl) dX9_taken_12
    · have b9_ : 0 ≤ Int32.toInt p2 ∧ Int32.toInt p2 ≤ 6 := (by have u0 := b5_; have u1 := (not_congr (zi_lt _ _)).mp c6_; have u2 : (6 : Int32).toInt = 6 := (by decide); omega)
      rw [if_neg c6_] at hw
      subst hw
      refine lv_if_ne (tgt := 13) hx hb dX9_taken_7 (by decide) (fun c10_ => ?_) (fun c10_ => absurd c10_ (by decide))
      refine lv_aload_n hx hb dX9_taken_13 rfl (lv_at hl 0 rfl) ?_
      refine zget hx hb ht inlX9 hown hK hW 0 rfl rfl 3 (by decide) zm_23 rfl dX9_taken_14 ?_
      refine lv_iload_n hx hb dX9_taken_17 rfl (lv_at hl 1 rfl) ?_
      refine zgo_i (wr := [(a0, .inr (8, [w3, w4, w5, .ref a6, w7, w8, w9, w10, w11]))]) (zrunV (As := [.int p1]) (rest := []) ⟨hx, hb, hml, hown, ht⟩ (zc_X7_has_0 l D y a6 p1 w12 w13 w14 w15 w16 w17 w18 w19 w20 w21 w22) (cwV 1 ht (zgV zm_263 zm_264 zm_265 zm_22 zm_266) rfl rfl rfl (by decide +kernel) ⟨(Nat.le_of_ble_eq_true rfl), (Nat.le_of_ble_eq_true rfl)⟩) hK hE hS hA hW [1] (by decide) rfl 0 rfl rfl rfl rfl hl.1 rfl (Nat.le_of_ble_eq_true rfl) dX9_taken_18 (Nat.le_of_ble_eq_true rfl) (Nat.le_of_ble_eq_true rfl)) hS hA hW [1] [0] rfl rfl (by decide) (by decide) (fun r11_ u H locs hw hW hS => ?_)
      have hW : zPD D A [(a0, .inr (8, [w3, w4, w5, .ref a6, w7, w8, w9, w10, w11])), (a6, .inr (6, [w12, .int 0, w13, w14, w15, w16, w17, w18, w19, w20, w21, w22]))] H := hW
      have hw : r11_ = 0 := hw
      subst hw
      refine lv_if_ne (tgt := 27) hx hb dX9_taken_21 (by decide) (fun c12_ => absurd (by decide) c12_) (fun c12_ => ?_)
      refine lv_bipush (v := (-11)) hx hb dX9_taken_24 (by decide) ?_
      exact zret_i (v := (-11)) hx hb hr hlocks hS () (by show _ = _; rw [if_neg c2_, if_neg c6_]) (hW.sub [] (by decide) rfl) (Nat.le_of_ble_eq_true rfl) (Nat.le_of_ble_eq_true rfl) dX9_taken_26
set_option maxHeartbeats 8000000 in
set_option maxRecDepth 100000 in
theorem zc_X10_taken_0 (l : Launch) (D : va_G) (y : Nat → ClassId) (a0 : Nat) (p1 : Int32) (p2 : Int32) (w3 : Value) (w4 : Value) (w5 : Value) (w6 : Value) (w7 : Value) (w8 : Value) (w9 : Value) (w10 : Value) (w11 : Value) (w12 : Value) (w13 : Value) (w14 : Value) (w15 : Value) (w16 : Value) (w17 : Value) (w18 : Value) (w19 : Value) (w20 : Value) (w21 : Value) (w22 : Value) (w23 : Value) (w24 : Value) (w25 : Value) (w26 : Value) (w27 : Value) (w28 : Value) (w29 : Value) (w30 : Value) (w31 : Value) (w32 : Value) (w33 : Value) (w34 : Value) (w35 : Value) (w36 : Value) (w37 : Value) (w38 : Value) (w39 : Value) (w40 : Value) (w41 : Value) (w42 : Value) (w43 : Value) (w44 : Value) (w45 : Value) (w46 : Value) (w47 : Value) (w48 : Value) (w49 : Value) (w50 : Value) (w51 : Value) (w52 : Value) (w53 : Value) (w54 : Value) (w55 : Value) (w56 : Value) (w57 : Value) (w58 : Value) (w59 : Value) (w60 : Value) (w61 : Value) (w62 : Value) (w63 : Value) (w64 : Value) (w65 : Value) (w66 : Value) (w67 : Value) (w68 : Value) (w69 : Value) (w70 : Value) (w71 : Value) (w72 : Value) (w73 : Value) (w74 : Value) (w75 : Value) (w76 : Value) (w77 : Value) : zM l D y yX10_taken (Cond.code yX10_taken cX10_taken 4 (some .int) :: zT) { frames := 2, cells := 0, slots := 0, locals := 44 } [.ref a0, .int p1, .int p2] [(a0, .inr (9, [.int 0, w3, w4, w5, w6, w7, w8, w9, w10, w11, w12, w13, w14, w15, w16, w17, w18, w19, w20, w21, w22, w23, w24, w25, w26, w27, w28, w29, w30, w31, w32, w33, w34, w35, w36, w37, w38, w39, w40, w41, w42, w43, w44, w45, w46, w47, w48, w49, w50, w51, w52, w53, w54, w55, w56, w57, w58, w59, w60, w61, w62, w63, w64, w65, w66, w67, w68, w69, w70, w71, w72, w73, w74, w75, w76, w77]))] (zQi (S := Unit) D (fun r_ _ => r_ = (if p2 < 0 then (-2) else (if 6 < p2 then (-2) else (-11)))) (fun _ => [])) := by
  refine zent (cc := cX10_taken) (maxL := 4) (ret := (some .int)) (by decide) (Nat.le_of_ble_eq_true rfl) ?_
  intro p e s m below meth c A H locs ls hx hb hml hr ht hown hlocks hin hA hK hE hS hW hl
  have hown : s.vm.findClass RX10 = some m.cls := hown
  have hW : zPD D A [(a0, .inr (9, [.int 0, w3, w4, w5, w6, w7, w8, w9, w10, w11, w12, w13, w14, w15, w16, w17, w18, w19, w20, w21, w22, w23, w24, w25, w26, w27, w28, w29, w30, w31, w32, w33, w34, w35, w36, w37, w38, w39, w40, w41, w42, w43, w44, w45, w46, w47, w48, w49, w50, w51, w52, w53, w54, w55, w56, w57, w58, w59, w60, w61, w62, w63, w64, w65, w66, w67, w68, w69, w70, w71, w72, w73, w74, w75, w76, w77]))] H := hW
  have hl : lv_has ls 4 [(0, .ref a0), (1, .int p1), (2, .int p2)] := hl
  refine lv_aload_n hx hb dX10_taken_0 rfl (lv_at hl 0 rfl) ?_
  refine lv_iload_n hx hb dX10_taken_1 rfl (lv_at hl 2 rfl) ?_
  refine lv_iconst (v := 0) hx hb dX10_taken_2 (by decide) ?_
  refine lv_bipush (v := 6) hx hb dX10_taken_3 (by decide) ?_
  refine zgo_i (wr := []) (zrunV (As := [.int p2, .int 0, .int 6]) (rest := []) ⟨hx, hb, hml, hown, ht⟩ (zc_X10_in_0 l D y a0 p2 (.int 0) w3 w4 w5 w6 w7 w8 w9 w10 w11 w12 w13 w14 w15 w16 w17 w18 w19 w20 w21 w22 w23 w24 w25 w26 w27 w28 w29 w30 w31 w32 w33 w34 w35 w36 w37 w38 w39 w40 w41 w42 w43 w44 w45 w46 w47 w48 w49 w50 w51 w52 w53 w54 w55 w56 w57 w58 w59 w60 w61 w62 w63 w64 w65 w66 w67 w68 w69 w70 w71 w72 w73 w74 w75 w76 w77) (cwV 3 ht (zgV zm_240 zm_241 zm_242 zm_5 zm_243) rfl rfl rfl (by decide +kernel) ⟨(Nat.le_of_ble_eq_true rfl), (Nat.le_of_ble_eq_true rfl)⟩) hK hE hS hA hW [0] (by decide) rfl 0 rfl rfl rfl rfl hl.1 rfl (Nat.le_of_ble_eq_true rfl) dX10_taken_5 (Nat.le_of_ble_eq_true rfl) (Nat.le_of_ble_eq_true rfl)) hS hA hW [0] [] rfl rfl (by decide) (by decide) (fun r1_ u H locs hw hW hS => ?_)
  have hW : zPD D A [(a0, .inr (9, [.int 0, w3, w4, w5, w6, w7, w8, w9, w10, w11, w12, w13, w14, w15, w16, w17, w18, w19, w20, w21, w22, w23, w24, w25, w26, w27, w28, w29, w30, w31, w32, w33, w34, w35, w36, w37, w38, w39, w40, w41, w42, w43, w44, w45, w46, w47, w48, w49, w50, w51, w52, w53, w54, w55, w56, w57, w58, w59, w60, w61, w62, w63, w64, w65, w66, w67, w68, w69, w70, w71, w72, w73, w74, w75, w76, w77]))] H := hW
  have hw : r1_ = (if p2 < 0 then 0 else (if 6 < p2 then 0 else 1)) := hw
  by_cases c2_ : p2 < 0
  · have b3_ : (-2147483648) ≤ Int32.toInt p2 ∧ Int32.toInt p2 ≤ (-1) := (by have u0 := zbnd p2; have u1 := (zi_lt _ _).mp c2_; have u2 : (0 : Int32).toInt = 0 := (by decide); omega)
    rw [if_pos c2_] at hw
    subst hw
    refine lv_if_ne (tgt := 14) hx hb dX10_taken_8 (by decide) (fun c4_ => absurd (by decide) c4_) (fun c4_ => ?_)
    refine lv_bipush (v := (-2)) hx hb dX10_taken_11 (by decide) ?_
    exact zret_i (v := (-2)) hx hb hr hlocks hS () (by show _ = _; rw [if_pos c2_]) (hW.sub [] (by decide) rfl) (Nat.le_of_ble_eq_true rfl) (Nat.le_of_ble_eq_true rfl) dX10_taken_13
  · have b5_ : 0 ≤ Int32.toInt p2 ∧ Int32.toInt p2 ≤ 2147483647 := (by have u0 := zbnd p2; have u1 := (not_congr (zi_lt _ _)).mp c2_; have u2 : (0 : Int32).toInt = 0 := (by decide); omega)
    rw [if_neg c2_] at hw
    by_cases c6_ : 6 < p2
    · have b7_ : 7 ≤ Int32.toInt p2 ∧ Int32.toInt p2 ≤ 2147483647 := (by have u0 := b5_; have u1 := (zi_lt _ _).mp c6_; have u2 : (6 : Int32).toInt = 6 := (by decide); omega)
      rw [if_pos c6_] at hw
      subst hw
      refine lv_if_ne (tgt := 14) hx hb dX10_taken_8 (by decide) (fun c8_ => absurd (by decide) c8_) (fun c8_ => ?_)
      refine lv_bipush (v := (-2)) hx hb dX10_taken_11 (by decide) ?_
      exact zret_i (v := (-2)) hx hb hr hlocks hS () (by show _ = _; rw [if_neg c2_, if_pos c6_]) (hW.sub [] (by decide) rfl) (Nat.le_of_ble_eq_true rfl) (Nat.le_of_ble_eq_true rfl) dX10_taken_13
    · have b9_ : 0 ≤ Int32.toInt p2 ∧ Int32.toInt p2 ≤ 6 := (by have u0 := b5_; have u1 := (not_congr (zi_lt _ _)).mp c6_; have u2 : (6 : Int32).toInt = 6 := (by decide); omega)
      rw [if_neg c6_] at hw
      subst hw
      refine lv_if_ne (tgt := 14) hx hb dX10_taken_8 (by decide) (fun c10_ => ?_) (fun c10_ => absurd c10_ (by decide))
      refine lv_aload_n hx hb dX10_taken_14 rfl (lv_at hl 0 rfl) ?_
      refine lv_iload_n hx hb dX10_taken_15 rfl (lv_at hl 1 rfl) ?_
      refine zgo_i (wr := []) (zrunV (As := [.int p1]) (rest := []) ⟨hx, hb, hml, hown, ht⟩ (zc_X10_isWindow_0 l D y a0 p1 w3 w4 w5 w6 w7 w8 w9 w10 w11 w12 w13 w14 w15 w16 w17 w18 w19 w20 w21 w22 w23 w24 w25 w26 w27 w28 w29 w30 w31 w32 w33 w34 w35 w36 w37 w38 w39 w40 w41 w42 w43 w44 w45 w46 w47 w48 w49 w50 w51 w52 w53 w54 w55 w56 w57 w58 w59 w60 w61 w62 w63 w64 w65 w66 w67 w68 w69 w70 w71 w72 w73 w74 w75 w76 w77) (cwV 1 ht (zgV zm_353 zm_354 zm_355 zm_5 zm_356) rfl rfl rfl (by decide +kernel) ⟨(Nat.le_of_ble_eq_true rfl), (Nat.le_of_ble_eq_true rfl)⟩) hK hE hS hA hW [0] (by decide) rfl 0 rfl rfl rfl rfl hl.1 rfl (Nat.le_of_ble_eq_true rfl) dX10_taken_16 (Nat.le_of_ble_eq_true rfl) (Nat.le_of_ble_eq_true rfl)) hS hA hW [0] [] rfl rfl (by decide) (by decide) (fun r11_ u H locs hw hW hS => ?_)
      have hW : zPD D A [(a0, .inr (9, [.int 0, w3, w4, w5, w6, w7, w8, w9, w10, w11, w12, w13, w14, w15, w16, w17, w18, w19, w20, w21, w22, w23, w24, w25, w26, w27, w28, w29, w30, w31, w32, w33, w34, w35, w36, w37, w38, w39, w40, w41, w42, w43, w44, w45, w46, w47, w48, w49, w50, w51, w52, w53, w54, w55, w56, w57, w58, w59, w60, w61, w62, w63, w64, w65, w66, w67, w68, w69, w70, w71, w72, w73, w74, w75, w76, w77]))] H := hW
      have hw : r11_ = 0 := hw
      subst hw
      refine lv_if_ne (tgt := 25) hx hb dX10_taken_19 (by decide) (fun c12_ => absurd (by decide) c12_) (fun c12_ => ?_)
      refine lv_bipush (v := (-11)) hx hb dX10_taken_22 (by decide) ?_
      exact zret_i (v := (-11)) hx hb hr hlocks hS () (by show _ = _; rw [if_neg c2_, if_neg c6_]) (hW.sub [] (by decide) rfl) (Nat.le_of_ble_eq_true rfl) (Nat.le_of_ble_eq_true rfl) dX10_taken_24
set_option maxHeartbeats 8000000 in
set_option maxRecDepth 100000 in
theorem zc_X9_count_0 (l : Launch) (D : va_G) (y : Nat → ClassId) (a0 : Nat) (p1 : Int32) (w2 : Value) (a3 : Nat) (a4 : Nat) (w5 : Value) (w6 : Value) (w7 : Value) (a8 : Nat) (w9 : Value) (w10 : Value) (w11 : Value) (w12 : Value) (w13 : Value) (w14 : Value) (w15 : Value) (w16 : Value) (w17 : Value) (w18 : Value) (w19 : Value) (w20 : Value) (w21 : Value) (a22 : Nat) (a23 : Nat) (a24 : Nat) (w25 : Value) (w26 : Value) (w27 : Value) (w28 : Value) (w29 : Value) (w30 : Value) (w31 : Value) (w32 : Value) (w33 : Value) (w34 : Value) : zM l D y yX9_count (Cond.code yX9_count cX9_count 2 (some .int) :: zT) { frames := 0, cells := 0, slots := 0, locals := 0 } [.ref a0, .int p1] [(a0, .inr (8, [w2, .int 0, .ref a3, .ref a4, w5, w6, w7, .ref a8, w9])), (a3, .inr (4, [w10, .int 0, w11, w12, w13])), (a4, .inr (6, [w14, .int 0, w15, w16, w17, w18, w19, w20, w21, .ref a22, .ref a23, .ref a24])), (a8, .inr (0, [w25, .int 0, w26, w27, w28])), (a22, .inr (5, [.int 0, w29, w30])), (a23, .inr (5, [.int 0, w31, w32])), (a24, .inr (5, [.int 0, w33, w34]))] (zQi (S := Unit) D (fun r_ _ => r_ = (if p1 = 0 then 0 else (if p1 = 1 then 0 else (if p1 = 2 then 0 else (if p1 = 3 then 0 else (if p1 = 4 then 0 else (if p1 = 5 then 0 else (if p1 = 6 then 0 else (-2))))))))) (fun _ => [])) := by
  refine zent (cc := cX9_count) (maxL := 2) (ret := (some .int)) (by decide) (Nat.le_of_ble_eq_true rfl) ?_
  intro p e s m below meth c A H locs ls hx hb hml hr ht hown hlocks hin hA hK hE hS hW hl
  have hown : s.vm.findClass RX9 = some m.cls := hown
  have hW : zPD D A [(a0, .inr (8, [w2, .int 0, .ref a3, .ref a4, w5, w6, w7, .ref a8, w9])), (a3, .inr (4, [w10, .int 0, w11, w12, w13])), (a4, .inr (6, [w14, .int 0, w15, w16, w17, w18, w19, w20, w21, .ref a22, .ref a23, .ref a24])), (a8, .inr (0, [w25, .int 0, w26, w27, w28])), (a22, .inr (5, [.int 0, w29, w30])), (a23, .inr (5, [.int 0, w31, w32])), (a24, .inr (5, [.int 0, w33, w34]))] H := hW
  have hl : lv_has ls 2 [(0, .ref a0), (1, .int p1)] := hl
  refine lv_iload_n hx hb dX9_count_0 rfl (lv_at hl 1 rfl) ?_
  by_cases c1_ : p1 = 0
  · refine lv_tableIn (tgt := 44) hx hb dX9_count_1 (by rw [c1_]; decide) (by rw [c1_]; decide) (by rw [c1_]; rfl) (by decide) ?_
    have b2_ : 0 ≤ Int32.toInt p1 ∧ Int32.toInt p1 ≤ 0 := (by have u0 := zbnd p1; have u1 := (zi_eq _ _).mp c1_; have u2 : (0 : Int32).toInt = 0 := (by decide); omega)
    refine lv_aload_n hx hb dX9_count_44 rfl (lv_at hl 0 rfl) ?_
    refine zget hx hb ht inlX9 hown hK hW 0 rfl rfl 3 (by decide) zm_23 rfl dX9_count_45 ?_
    refine zget hx hb ht inlX7 hown hK hW 2 rfl rfl 1 (by decide) zm_220 rfl dX9_count_48 ?_
    exact zret_i (v := 0) hx hb hr hlocks hS () (by show _ = _; rw [if_pos c1_]) (hW.sub [] (by decide) rfl) (Nat.le_of_ble_eq_true rfl) (Nat.le_of_ble_eq_true rfl) dX9_count_51
  · have b3_ : (-2147483648) ≤ Int32.toInt p1 ∧ Int32.toInt p1 ≤ 2147483647 := (by have u0 := zbnd p1; have u1 := (not_congr (zi_eq _ _)).mp c1_; have u2 : (0 : Int32).toInt = 0 := (by decide); omega)
    by_cases c4_ : p1 = 1
    · refine lv_tableIn (tgt := 52) hx hb dX9_count_1 (by rw [c4_]; decide) (by rw [c4_]; decide) (by rw [c4_]; rfl) (by decide) ?_
      have b5_ : 1 ≤ Int32.toInt p1 ∧ Int32.toInt p1 ≤ 1 := (by have u0 := b3_; have u1 := (zi_eq _ _).mp c4_; have u2 : (1 : Int32).toInt = 1 := (by decide); omega)
      refine lv_aload_n hx hb dX9_count_52 rfl (lv_at hl 0 rfl) ?_
      refine zget hx hb ht inlX9 hown hK hW 0 rfl rfl 1 (by decide) zm_15 rfl dX9_count_53 ?_
      exact zret_i (v := 0) hx hb hr hlocks hS () (by show _ = _; rw [if_neg c1_, if_pos c4_]) (hW.sub [] (by decide) rfl) (Nat.le_of_ble_eq_true rfl) (Nat.le_of_ble_eq_true rfl) dX9_count_56
    · by_cases c6_ : p1 = 2
      · refine lv_tableIn (tgt := 57) hx hb dX9_count_1 (by rw [c6_]; decide) (by rw [c6_]; decide) (by rw [c6_]; rfl) (by decide) ?_
        have b7_ : 2 ≤ Int32.toInt p1 ∧ Int32.toInt p1 ≤ 2 := (by have u0 := b3_; have u1 := (zi_eq _ _).mp c6_; have u2 : (2 : Int32).toInt = 2 := (by decide); omega)
        refine lv_aload_n hx hb dX9_count_57 rfl (lv_at hl 0 rfl) ?_
        refine zget hx hb ht inlX9 hown hK hW 0 rfl rfl 3 (by decide) zm_23 rfl dX9_count_58 ?_
        refine zget hx hb ht inlX7 hown hK hW 2 rfl rfl 9 (by decide) zm_783 rfl dX9_count_61 ?_
        refine zget hx hb ht inlX6 hown hK hW 4 rfl rfl 0 (by decide) zm_945 rfl dX9_count_64 ?_
        exact zret_i (v := 0) hx hb hr hlocks hS () (by show _ = _; rw [if_neg c1_, if_neg c4_, if_pos c6_]) (hW.sub [] (by decide) rfl) (Nat.le_of_ble_eq_true rfl) (Nat.le_of_ble_eq_true rfl) dX9_count_67
      · by_cases c8_ : p1 = 3
        · refine lv_tableIn (tgt := 68) hx hb dX9_count_1 (by rw [c8_]; decide) (by rw [c8_]; decide) (by rw [c8_]; rfl) (by decide) ?_
          have b9_ : 3 ≤ Int32.toInt p1 ∧ Int32.toInt p1 ≤ 3 := (by have u0 := b3_; have u1 := (zi_eq _ _).mp c8_; have u2 : (3 : Int32).toInt = 3 := (by decide); omega)
          refine lv_aload_n hx hb dX9_count_68 rfl (lv_at hl 0 rfl) ?_
          refine zget hx hb ht inlX9 hown hK hW 0 rfl rfl 3 (by decide) zm_23 rfl dX9_count_69 ?_
          refine zget hx hb ht inlX7 hown hK hW 2 rfl rfl 10 (by decide) zm_1001 rfl dX9_count_72 ?_
          refine zget hx hb ht inlX6 hown hK hW 5 rfl rfl 0 (by decide) zm_945 rfl dX9_count_75 ?_
          exact zret_i (v := 0) hx hb hr hlocks hS () (by show _ = _; rw [if_neg c1_, if_neg c4_, if_neg c6_, if_pos c8_]) (hW.sub [] (by decide) rfl) (Nat.le_of_ble_eq_true rfl) (Nat.le_of_ble_eq_true rfl) dX9_count_78
        · by_cases c10_ : p1 = 4
          · refine lv_tableIn (tgt := 79) hx hb dX9_count_1 (by rw [c10_]; decide) (by rw [c10_]; decide) (by rw [c10_]; rfl) (by decide) ?_
            have b11_ : 4 ≤ Int32.toInt p1 ∧ Int32.toInt p1 ≤ 4 := (by have u0 := b3_; have u1 := (zi_eq _ _).mp c10_; have u2 : (4 : Int32).toInt = 4 := (by decide); omega)
            refine lv_aload_n hx hb dX9_count_79 rfl (lv_at hl 0 rfl) ?_
            refine zget hx hb ht inlX9 hown hK hW 0 rfl rfl 3 (by decide) zm_23 rfl dX9_count_80 ?_
            refine zget hx hb ht inlX7 hown hK hW 2 rfl rfl 11 (by decide) zm_1065 rfl dX9_count_83 ?_
            refine zget hx hb ht inlX6 hown hK hW 6 rfl rfl 0 (by decide) zm_945 rfl dX9_count_86 ?_
            exact zret_i (v := 0) hx hb hr hlocks hS () (by show _ = _; rw [if_neg c1_, if_neg c4_, if_neg c6_, if_neg c8_, if_pos c10_]) (hW.sub [] (by decide) rfl) (Nat.le_of_ble_eq_true rfl) (Nat.le_of_ble_eq_true rfl) dX9_count_89
          · by_cases c12_ : p1 = 5
            · refine lv_tableIn (tgt := 90) hx hb dX9_count_1 (by rw [c12_]; decide) (by rw [c12_]; decide) (by rw [c12_]; rfl) (by decide) ?_
              have b13_ : 5 ≤ Int32.toInt p1 ∧ Int32.toInt p1 ≤ 5 := (by have u0 := b3_; have u1 := (zi_eq _ _).mp c12_; have u2 : (5 : Int32).toInt = 5 := (by decide); omega)
              refine lv_aload_n hx hb dX9_count_90 rfl (lv_at hl 0 rfl) ?_
              refine zget hx hb ht inlX9 hown hK hW 0 rfl rfl 2 (by decide) zm_19 rfl dX9_count_91 ?_
              refine zget hx hb ht inlX5 hown hK hW 1 rfl rfl 1 (by decide) zm_453 rfl dX9_count_94 ?_
              exact zret_i (v := 0) hx hb hr hlocks hS () (by show _ = _; rw [if_neg c1_, if_neg c4_, if_neg c6_, if_neg c8_, if_neg c10_, if_pos c12_]) (hW.sub [] (by decide) rfl) (Nat.le_of_ble_eq_true rfl) (Nat.le_of_ble_eq_true rfl) dX9_count_97
            · by_cases c14_ : p1 = 6
              · refine lv_tableIn (tgt := 98) hx hb dX9_count_1 (by rw [c14_]; decide) (by rw [c14_]; decide) (by rw [c14_]; rfl) (by decide) ?_
                have b15_ : 6 ≤ Int32.toInt p1 ∧ Int32.toInt p1 ≤ 6 := (by have u0 := b3_; have u1 := (zi_eq _ _).mp c14_; have u2 : (6 : Int32).toInt = 6 := (by decide); omega)
                refine lv_aload_n hx hb dX9_count_98 rfl (lv_at hl 0 rfl) ?_
                refine zget hx hb ht inlX9 hown hK hW 0 rfl rfl 7 (by decide) zm_33 rfl dX9_count_99 ?_
                refine zget hx hb ht inlX0 hown hK hW 3 rfl rfl 1 (by decide) zm_1135 rfl dX9_count_102 ?_
                exact zret_i (v := 0) hx hb hr hlocks hS () (by show _ = _; rw [if_neg c1_, if_neg c4_, if_neg c6_, if_neg c8_, if_neg c10_, if_neg c12_, if_pos c14_]) (hW.sub [] (by decide) rfl) (Nat.le_of_ble_eq_true rfl) (Nat.le_of_ble_eq_true rfl) dX9_count_105
              · refine lv_tableOut (tgt := 106) hx hb dX9_count_1 (by have u0 := (not_congr (zi_eq _ _)).mp c1_; have w0 : (0 : Int32).toInt = 0 := (by decide); have u1 := (not_congr (zi_eq _ _)).mp c4_; have w1 : (1 : Int32).toInt = 1 := (by decide); have u2 := (not_congr (zi_eq _ _)).mp c6_; have w2 : (2 : Int32).toInt = 2 := (by decide); have u3 := (not_congr (zi_eq _ _)).mp c8_; have w3 : (3 : Int32).toInt = 3 := (by decide); have u4 := (not_congr (zi_eq _ _)).mp c10_; have w4 : (4 : Int32).toInt = 4 := (by decide); have u5 := (not_congr (zi_eq _ _)).mp c12_; have w5 : (5 : Int32).toInt = 5 := (by decide); have u6 := (not_congr (zi_eq _ _)).mp c14_; have w6 : (6 : Int32).toInt = 6 := (by decide); omega) (by decide) ?_
                refine lv_bipush (v := (-2)) hx hb dX9_count_106 (by decide) ?_
                exact zret_i (v := (-2)) hx hb hr hlocks hS () (by show _ = _; rw [if_neg c1_, if_neg c4_, if_neg c6_, if_neg c8_, if_neg c10_, if_neg c12_, if_neg c14_]) (hW.sub [] (by decide) rfl) (Nat.le_of_ble_eq_true rfl) (Nat.le_of_ble_eq_true rfl) dX9_count_108
set_option maxHeartbeats 8000000 in
set_option maxRecDepth 100000 in
theorem zc_X10_count_0 (l : Launch) (D : va_G) (y : Nat → ClassId) (a0 : Nat) (p1 : Int32) (w2 : Value) (w3 : Value) (w4 : Value) (w5 : Value) (w6 : Value) (w7 : Value) (w8 : Value) (w9 : Value) (w10 : Value) (w11 : Value) (w12 : Value) (w13 : Value) (w14 : Value) (w15 : Value) (w16 : Value) (w17 : Value) (w18 : Value) (w19 : Value) (w20 : Value) (w21 : Value) (w22 : Value) (w23 : Value) (w24 : Value) (w25 : Value) (w26 : Value) (w27 : Value) (w28 : Value) (w29 : Value) (w30 : Value) (w31 : Value) (w32 : Value) (w33 : Value) (w34 : Value) (w35 : Value) (w36 : Value) (w37 : Value) (w38 : Value) (w39 : Value) (w40 : Value) (w41 : Value) (w42 : Value) (w43 : Value) (w44 : Value) (w45 : Value) (w46 : Value) (w47 : Value) (w48 : Value) (w49 : Value) (w50 : Value) (w51 : Value) (w52 : Value) (w53 : Value) (w54 : Value) (w55 : Value) (w56 : Value) (w57 : Value) (w58 : Value) (w59 : Value) (w60 : Value) (w61 : Value) (w62 : Value) (w63 : Value) (w64 : Value) (w65 : Value) (w66 : Value) (w67 : Value) (w68 : Value) (w69 : Value) (w70 : Value) : zM l D y yX10_count (Cond.code yX10_count cX10_count 2 (some .int) :: zT) { frames := 0, cells := 0, slots := 0, locals := 0 } [.ref a0, .int p1] [(a0, .inr (9, [.int 0, w2, w3, w4, w5, w6, w7, w8, w9, w10, w11, w12, w13, w14, .int 0, w15, .int 0, w16, w17, w18, w19, w20, w21, w22, w23, w24, w25, w26, w27, w28, w29, w30, w31, w32, w33, w34, w35, .int 0, w36, w37, .int 0, w38, w39, .int 0, w40, w41, w42, w43, w44, w45, w46, w47, w48, w49, w50, w51, w52, w53, w54, w55, w56, w57, w58, w59, w60, w61, w62, w63, w64, w65, .int 0, w66, w67, w68, w69, w70]))] (zQi (S := Unit) D (fun r_ _ => r_ = (if p1 = 0 then 0 else (if p1 = 1 then 0 else (if p1 = 2 then 0 else (if p1 = 3 then 0 else (if p1 = 4 then 0 else (if p1 = 5 then 0 else (if p1 = 6 then 0 else (-2))))))))) (fun _ => [])) := by
  refine zent (cc := cX10_count) (maxL := 2) (ret := (some .int)) (by decide) (Nat.le_of_ble_eq_true rfl) ?_
  intro p e s m below meth c A H locs ls hx hb hml hr ht hown hlocks hin hA hK hE hS hW hl
  have hown : s.vm.findClass RX10 = some m.cls := hown
  have hW : zPD D A [(a0, .inr (9, [.int 0, w2, w3, w4, w5, w6, w7, w8, w9, w10, w11, w12, w13, w14, .int 0, w15, .int 0, w16, w17, w18, w19, w20, w21, w22, w23, w24, w25, w26, w27, w28, w29, w30, w31, w32, w33, w34, w35, .int 0, w36, w37, .int 0, w38, w39, .int 0, w40, w41, w42, w43, w44, w45, w46, w47, w48, w49, w50, w51, w52, w53, w54, w55, w56, w57, w58, w59, w60, w61, w62, w63, w64, w65, .int 0, w66, w67, w68, w69, w70]))] H := hW
  have hl : lv_has ls 2 [(0, .ref a0), (1, .int p1)] := hl
  refine lv_iload_n hx hb dX10_count_0 rfl (lv_at hl 1 rfl) ?_
  by_cases c1_ : p1 = 0
  · refine lv_tableIn (tgt := 44) hx hb dX10_count_1 (by rw [c1_]; decide) (by rw [c1_]; decide) (by rw [c1_]; rfl) (by decide) ?_
    have b2_ : 0 ≤ Int32.toInt p1 ∧ Int32.toInt p1 ≤ 0 := (by have u0 := zbnd p1; have u1 := (zi_eq _ _).mp c1_; have u2 : (0 : Int32).toInt = 0 := (by decide); omega)
    refine lv_aload_n hx hb dX10_count_44 rfl (lv_at hl 0 rfl) ?_
    refine zget hx hb ht inlX10 hown hK hW 0 rfl rfl 0 (by decide) zm_140 rfl dX10_count_45 ?_
    exact zret_i (v := 0) hx hb hr hlocks hS () (by show _ = _; rw [if_pos c1_]) (hW.sub [] (by decide) rfl) (Nat.le_of_ble_eq_true rfl) (Nat.le_of_ble_eq_true rfl) dX10_count_48
  · have b3_ : (-2147483648) ≤ Int32.toInt p1 ∧ Int32.toInt p1 ≤ 2147483647 := (by have u0 := zbnd p1; have u1 := (not_congr (zi_eq _ _)).mp c1_; have u2 : (0 : Int32).toInt = 0 := (by decide); omega)
    by_cases c4_ : p1 = 1
    · refine lv_tableIn (tgt := 49) hx hb dX10_count_1 (by rw [c4_]; decide) (by rw [c4_]; decide) (by rw [c4_]; rfl) (by decide) ?_
      have b5_ : 1 ≤ Int32.toInt p1 ∧ Int32.toInt p1 ≤ 1 := (by have u0 := b3_; have u1 := (zi_eq _ _).mp c4_; have u2 : (1 : Int32).toInt = 1 := (by decide); omega)
      refine lv_aload_n hx hb dX10_count_49 rfl (lv_at hl 0 rfl) ?_
      refine zget hx hb ht inlX10 hown hK hW 0 rfl rfl 14 (by decide) zm_154 rfl dX10_count_50 ?_
      exact zret_i (v := 0) hx hb hr hlocks hS () (by show _ = _; rw [if_neg c1_, if_pos c4_]) (hW.sub [] (by decide) rfl) (Nat.le_of_ble_eq_true rfl) (Nat.le_of_ble_eq_true rfl) dX10_count_53
    · by_cases c6_ : p1 = 2
      · refine lv_tableIn (tgt := 54) hx hb dX10_count_1 (by rw [c6_]; decide) (by rw [c6_]; decide) (by rw [c6_]; rfl) (by decide) ?_
        have b7_ : 2 ≤ Int32.toInt p1 ∧ Int32.toInt p1 ≤ 2 := (by have u0 := b3_; have u1 := (zi_eq _ _).mp c6_; have u2 : (2 : Int32).toInt = 2 := (by decide); omega)
        refine lv_aload_n hx hb dX10_count_54 rfl (lv_at hl 0 rfl) ?_
        refine zget hx hb ht inlX10 hown hK hW 0 rfl rfl 37 (by decide) zm_177 rfl dX10_count_55 ?_
        exact zret_i (v := 0) hx hb hr hlocks hS () (by show _ = _; rw [if_neg c1_, if_neg c4_, if_pos c6_]) (hW.sub [] (by decide) rfl) (Nat.le_of_ble_eq_true rfl) (Nat.le_of_ble_eq_true rfl) dX10_count_58
      · by_cases c8_ : p1 = 3
        · refine lv_tableIn (tgt := 59) hx hb dX10_count_1 (by rw [c8_]; decide) (by rw [c8_]; decide) (by rw [c8_]; rfl) (by decide) ?_
          have b9_ : 3 ≤ Int32.toInt p1 ∧ Int32.toInt p1 ≤ 3 := (by have u0 := b3_; have u1 := (zi_eq _ _).mp c8_; have u2 : (3 : Int32).toInt = 3 := (by decide); omega)
          refine lv_aload_n hx hb dX10_count_59 rfl (lv_at hl 0 rfl) ?_
          refine zget hx hb ht inlX10 hown hK hW 0 rfl rfl 40 (by decide) zm_180 rfl dX10_count_60 ?_
          exact zret_i (v := 0) hx hb hr hlocks hS () (by show _ = _; rw [if_neg c1_, if_neg c4_, if_neg c6_, if_pos c8_]) (hW.sub [] (by decide) rfl) (Nat.le_of_ble_eq_true rfl) (Nat.le_of_ble_eq_true rfl) dX10_count_63
        · by_cases c10_ : p1 = 4
          · refine lv_tableIn (tgt := 64) hx hb dX10_count_1 (by rw [c10_]; decide) (by rw [c10_]; decide) (by rw [c10_]; rfl) (by decide) ?_
            have b11_ : 4 ≤ Int32.toInt p1 ∧ Int32.toInt p1 ≤ 4 := (by have u0 := b3_; have u1 := (zi_eq _ _).mp c10_; have u2 : (4 : Int32).toInt = 4 := (by decide); omega)
            refine lv_aload_n hx hb dX10_count_64 rfl (lv_at hl 0 rfl) ?_
            refine zget hx hb ht inlX10 hown hK hW 0 rfl rfl 43 (by decide) zm_183 rfl dX10_count_65 ?_
            exact zret_i (v := 0) hx hb hr hlocks hS () (by show _ = _; rw [if_neg c1_, if_neg c4_, if_neg c6_, if_neg c8_, if_pos c10_]) (hW.sub [] (by decide) rfl) (Nat.le_of_ble_eq_true rfl) (Nat.le_of_ble_eq_true rfl) dX10_count_68
          · by_cases c12_ : p1 = 5
            · refine lv_tableIn (tgt := 69) hx hb dX10_count_1 (by rw [c12_]; decide) (by rw [c12_]; decide) (by rw [c12_]; rfl) (by decide) ?_
              have b13_ : 5 ≤ Int32.toInt p1 ∧ Int32.toInt p1 ≤ 5 := (by have u0 := b3_; have u1 := (zi_eq _ _).mp c12_; have u2 : (5 : Int32).toInt = 5 := (by decide); omega)
              refine lv_aload_n hx hb dX10_count_69 rfl (lv_at hl 0 rfl) ?_
              refine zget hx hb ht inlX10 hown hK hW 0 rfl rfl 16 (by decide) zm_156 rfl dX10_count_70 ?_
              exact zret_i (v := 0) hx hb hr hlocks hS () (by show _ = _; rw [if_neg c1_, if_neg c4_, if_neg c6_, if_neg c8_, if_neg c10_, if_pos c12_]) (hW.sub [] (by decide) rfl) (Nat.le_of_ble_eq_true rfl) (Nat.le_of_ble_eq_true rfl) dX10_count_73
            · by_cases c14_ : p1 = 6
              · refine lv_tableIn (tgt := 74) hx hb dX10_count_1 (by rw [c14_]; decide) (by rw [c14_]; decide) (by rw [c14_]; rfl) (by decide) ?_
                have b15_ : 6 ≤ Int32.toInt p1 ∧ Int32.toInt p1 ≤ 6 := (by have u0 := b3_; have u1 := (zi_eq _ _).mp c14_; have u2 : (6 : Int32).toInt = 6 := (by decide); omega)
                refine lv_aload_n hx hb dX10_count_74 rfl (lv_at hl 0 rfl) ?_
                refine zget hx hb ht inlX10 hown hK hW 0 rfl rfl 70 (by decide) zm_210 rfl dX10_count_75 ?_
                exact zret_i (v := 0) hx hb hr hlocks hS () (by show _ = _; rw [if_neg c1_, if_neg c4_, if_neg c6_, if_neg c8_, if_neg c10_, if_neg c12_, if_pos c14_]) (hW.sub [] (by decide) rfl) (Nat.le_of_ble_eq_true rfl) (Nat.le_of_ble_eq_true rfl) dX10_count_78
              · refine lv_tableOut (tgt := 79) hx hb dX10_count_1 (by have u0 := (not_congr (zi_eq _ _)).mp c1_; have w0 : (0 : Int32).toInt = 0 := (by decide); have u1 := (not_congr (zi_eq _ _)).mp c4_; have w1 : (1 : Int32).toInt = 1 := (by decide); have u2 := (not_congr (zi_eq _ _)).mp c6_; have w2 : (2 : Int32).toInt = 2 := (by decide); have u3 := (not_congr (zi_eq _ _)).mp c8_; have w3 : (3 : Int32).toInt = 3 := (by decide); have u4 := (not_congr (zi_eq _ _)).mp c10_; have w4 : (4 : Int32).toInt = 4 := (by decide); have u5 := (not_congr (zi_eq _ _)).mp c12_; have w5 : (5 : Int32).toInt = 5 := (by decide); have u6 := (not_congr (zi_eq _ _)).mp c14_; have w6 : (6 : Int32).toInt = 6 := (by decide); omega) (by decide) ?_
                refine lv_bipush (v := (-2)) hx hb dX10_count_79 (by decide) ?_
                exact zret_i (v := (-2)) hx hb hr hlocks hS () (by show _ = _; rw [if_neg c1_, if_neg c4_, if_neg c6_, if_neg c8_, if_neg c10_, if_neg c12_, if_neg c14_]) (hW.sub [] (by decide) rfl) (Nat.le_of_ble_eq_true rfl) (Nat.le_of_ble_eq_true rfl) dX10_count_81
set_option maxHeartbeats 8000000 in
set_option maxRecDepth 100000 in
theorem zc_X8_become_0 (l : Launch) (D : va_G) (y : Nat → ClassId) (a0 : Nat) (p1 : Int32) (p2 : Int32) (a3 : Nat) (hp1 : 0 ≤ Int32.toInt p1 ∧ Int32.toInt p1 ≤ 4) (hp2 : 0 ≤ Int32.toInt p2 ∧ Int32.toInt p2 ≤ 60) : zM l D y yX8_become (Cond.code yX8_become cX8_become 4 none :: zT) { frames := 1, cells := 0, slots := 0, locals := 21 } [.ref a0, .int p1, .int p2] [(a0, .inr (7, [.int (-1), .int 0, .ref a3])), (a3, .inl (y 1, 60, .inr (.inl (fun _ => 0))))] (zQv (S := Unit) D (fun _ => True) (fun _ => [(a0, .inr (7, [.int p1, .int p2, .ref a3])), (a3, .inl (y 1, 60, .inr (.inl (fun _ => 0))))])) := by
  refine zent (cc := cX8_become) (maxL := 4) (ret := none) (by decide) (Nat.le_of_ble_eq_true rfl) ?_
  intro p e s m below meth c A H locs ls hx hb hml hr ht hown hlocks hin hA hK hE hS hW hl
  have hown : s.vm.findClass RX8 = some m.cls := hown
  replace hW : zPD D A [(a0, .inr (7, [.int (-1), .int 0, .ref a3])), (a3, .inl (y 1, 60, .inr (.inl (fun _ => 0))))] H := hW
  replace hl : lv_has ls 4 [(0, .ref a0), (1, .int p1), (2, .int p2)] := hl
  refine lv_aload_n hx hb dX8_become_0 rfl (lv_at hl 0 rfl) ?_
  refine lv_iload_n hx hb dX8_become_1 rfl (lv_at hl 1 rfl) ?_
  refine zput (ws' := [(a0, .inr (7, [.int p1, .int 0, .ref a3])), (a3, .inl (y 1, 60, .inr (.inl (fun _ => 0))))]) hx hb ht inlX8 tyX8 tyX8_ok nmX8 hown hK hS hW 0 rfl rfl 0 (by decide) zm_132 rfl rfl rfl (Nat.le_of_ble_eq_true rfl) rfl dX8_become_2 (fun H locs hW hS => ?_)
  refine lv_aload_n hx hb dX8_become_5 rfl (lv_at hl 0 rfl) ?_
  refine lv_iconst (v := 0) hx hb dX8_become_6 (by decide) ?_
  refine lv_iload_n hx hb dX8_become_7 rfl (lv_at hl 2 rfl) ?_
  refine lv_bipush (v := 60) hx hb dX8_become_8 (by decide) ?_
  refine va_mmin hx hb (by rw [hml]; exact hl.1.symm) hown (ht _ zm_1231) (ht _ zm_297) (ht _ zm_91) (ht _ zm_298) (Nat.le_of_ble_eq_true rfl) (Nat.le_of_ble_eq_true rfl) (Nat.le_of_ble_eq_true rfl) (Nat.le_of_ble_eq_true rfl) dX8_become_10 ?_
  refine ztop (w := .int p2) (congrArg Value.int (if_neg (by have z0 := hp2; have e0 : (60 : Int32).toInt = 60 := (by decide); rw [zi_lt]; omega))) ?_
  refine va_mmax hx hb (by rw [hml]; exact hl.1.symm) hown (ht _ zm_1232) (ht _ zm_90) (ht _ zm_91) (ht _ zm_92) (Nat.le_of_ble_eq_true rfl) (Nat.le_of_ble_eq_true rfl) (Nat.le_of_ble_eq_true rfl) (Nat.le_of_ble_eq_true rfl) dX8_become_13 ?_
  refine ztop (w := .int p2) (congrArg Value.int ((by split <;> first | rfl | (rename_i hz; exact (zi_eq _ _).mpr (by have u0 := hp2; have u1 := (not_congr (zi_lt _ _)).mp hz; have u2 : (0 : Int32).toInt = 0 := (by decide); omega))))) ?_
  refine zput (ws' := [(a0, .inr (7, [.int p1, .int p2, .ref a3])), (a3, .inl (y 1, 60, .inr (.inl (fun _ => 0))))]) hx hb ht inlX8 tyX8 tyX8_ok nmX8 hown hK hS hW 0 rfl rfl 1 (by decide) zm_133 rfl rfl rfl (Nat.le_of_ble_eq_true rfl) rfl dX8_become_16 (fun H locs hW hS => ?_)
  refine lv_iconst (v := 0) hx hb dX8_become_19 (by decide) ?_
  refine lv_istore_n (lv' := [(3, .int 0), (0, .ref a0), (1, .int p1), (2, .int p2)]) hx hb dX8_become_20 rfl hl (by decide) rfl (fun ls hl => ?_)
  obtain ⟨x1_, ex1_⟩ : ∃ z : Int32, z = 0 := ⟨_, rfl⟩
  obtain ⟨n21_, hI21_⟩ : ∃ n : Nat, (0 ≤ Int32.toInt x1_ ∧ Int32.toInt x1_ ≤ 60) ∧ (60 - Int32.toInt x1_ < (n : Int)) ∧ zPD D A [(a0, .inr (7, [.int p1, .int p2, .ref a3])), (a3, .inl (y 1, 60, .inr (.inl (fun _ => 0))))] H ∧ va_S A s.heap H locs ∧ lv_has ls 4 [(3, .int x1_), (0, .ref a0), (1, .int p1), (2, .int p2)] := ⟨(60 - Int32.toInt x1_ + 1).toNat, by rw [ex1_]; exact (by decide), by omega, by (try rw [ex1_]); exact hW, hS, by (try rw [ex1_]); exact hl⟩
  clear hW hS hl ex1_
  induction n21_ generalizing x1_ H locs ls with
  | zero => obtain ⟨bx1_, hn, -⟩ := hI21_; exact absurd hn (by omega)
  | succ n ih =>
    obtain ⟨bx1_, hn, hW, hS, hl⟩ := hI21_
    refine lv_iload_n hx hb dX8_become_21 rfl (lv_at hl 0 rfl) ?_
    refine lv_aload_n hx hb dX8_become_22 rfl (lv_at hl 1 rfl) ?_
    refine zget hx hb ht inlX8 hown hK hW 0 rfl rfl 1 (by decide) zm_133 rfl dX8_become_23 ?_
    refine lv_icmp_ge (tgt := 42) hx hb dX8_become_26 (by decide) (fun c2_ => ?_) (fun c2_ => ?_)
    · exact zret_v hx hb hr hlocks hS () trivial hW (Nat.le_of_ble_eq_true rfl) (Nat.le_of_ble_eq_true rfl) dX8_become_42
    · have b3_ : 1 ≤ Int32.toInt p2 ∧ Int32.toInt p2 ≤ 60 := (by have u0 := hp2; have u1 := (not_congr (zi_le _ _)).mp c2_; have u2 := bx1_; omega)
      have b4_ : 0 ≤ Int32.toInt x1_ ∧ Int32.toInt x1_ ≤ 59 := (by have u0 := bx1_; have u1 := (not_congr (zi_le _ _)).mp c2_; have u2 := b3_; omega)
      refine lv_aload_n hx hb dX8_become_29 rfl (lv_at hl 1 rfl) ?_
      refine zget hx hb ht inlX8 hown hK hW 0 rfl rfl 2 (by decide) zm_135 rfl dX8_become_30 ?_
      refine lv_iload_n hx hb dX8_become_33 rfl (lv_at hl 0 rfl) ?_
      refine lv_lconst (v := 0) hx hb dX8_become_34 (by decide) ?_
      refine zlast0 hx hb hK hS hW 1 rfl (vp_in_iff.mpr (by have u0 := b4_; omega)) (zupdL0 _) dX8_become_35 (fun H locs hW hS => ?_)
      refine lv_iinc (k := 0) (v := (x1_ + 1)) (lv' := [(3, .int (x1_ + 1)), (0, .ref a0), (1, .int p1), (2, .int p2)]) hx hb dX8_become_36 hl rfl (by rfl) (by decide) rfl (fun ls hl => ?_)
      refine lv_goto (tgt := 21) hx hb dX8_become_39 (by decide) ?_
      have b5_ : 1 ≤ Int32.toInt (x1_ + 1) ∧ Int32.toInt (x1_ + 1) ≤ 60 := by have u0 := b4_; have u1 := zadd_1 x1_ (by omega); omega
      exact ih _ _ _ _ ⟨(by have u0 := b5_; omega), by have u0 := zadd_1 x1_ (by have u0 := b4_; omega); omega, hW, hS, (lv_sub hl [0, 1, 2, 3] rfl)⟩
set_option maxHeartbeats 8000000 in
set_option maxRecDepth 100000 in
theorem zc_X8_become_1 (l : Launch) (D : va_G) (y : Nat → ClassId) (a0 : Nat) (w1 : Value) : zM l D y yX8_become (Cond.code yX8_become cX8_become 4 none :: zT) { frames := 1, cells := 0, slots := 0, locals := 21 } [.ref a0, .int (-1), .int 0] [(a0, .inr (7, [.int (-1), .int 0, w1]))] (zQv (S := Unit) D (fun _ => True) (fun _ => [(a0, .inr (7, [.int (-1), .int 0, w1]))])) := by
  refine zent (cc := cX8_become) (maxL := 4) (ret := none) (by decide) (Nat.le_of_ble_eq_true rfl) ?_
  intro p e s m below meth c A H locs ls hx hb hml hr ht hown hlocks hin hA hK hE hS hW hl
  have hown : s.vm.findClass RX8 = some m.cls := hown
  replace hW : zPD D A [(a0, .inr (7, [.int (-1), .int 0, w1]))] H := hW
  replace hl : lv_has ls 4 [(0, .ref a0), (1, .int (-1)), (2, .int 0)] := hl
  refine lv_aload_n hx hb dX8_become_0 rfl (lv_at hl 0 rfl) ?_
  refine lv_iload_n hx hb dX8_become_1 rfl (lv_at hl 1 rfl) ?_
  refine zput (ws' := [(a0, .inr (7, [.int (-1), .int 0, w1]))]) hx hb ht inlX8 tyX8 tyX8_ok nmX8 hown hK hS hW 0 rfl rfl 0 (by decide) zm_132 rfl rfl rfl (Nat.le_of_ble_eq_true rfl) rfl dX8_become_2 (fun H locs hW hS => ?_)
  refine lv_aload_n hx hb dX8_become_5 rfl (lv_at hl 0 rfl) ?_
  refine lv_iconst (v := 0) hx hb dX8_become_6 (by decide) ?_
  refine lv_iload_n hx hb dX8_become_7 rfl (lv_at hl 2 rfl) ?_
  refine lv_bipush (v := 60) hx hb dX8_become_8 (by decide) ?_
  refine va_mmin hx hb (by rw [hml]; exact hl.1.symm) hown (ht _ zm_1231) (ht _ zm_297) (ht _ zm_91) (ht _ zm_298) (Nat.le_of_ble_eq_true rfl) (Nat.le_of_ble_eq_true rfl) (Nat.le_of_ble_eq_true rfl) (Nat.le_of_ble_eq_true rfl) dX8_become_10 ?_
  refine ztop (w := .int 0) (congrArg Value.int (by decide)) ?_
  refine va_mmax hx hb (by rw [hml]; exact hl.1.symm) hown (ht _ zm_1232) (ht _ zm_90) (ht _ zm_91) (ht _ zm_92) (Nat.le_of_ble_eq_true rfl) (Nat.le_of_ble_eq_true rfl) (Nat.le_of_ble_eq_true rfl) (Nat.le_of_ble_eq_true rfl) dX8_become_13 ?_
  refine ztop (w := .int 0) (congrArg Value.int (by decide)) ?_
  refine zput (ws' := [(a0, .inr (7, [.int (-1), .int 0, w1]))]) hx hb ht inlX8 tyX8 tyX8_ok nmX8 hown hK hS hW 0 rfl rfl 1 (by decide) zm_133 rfl rfl rfl (Nat.le_of_ble_eq_true rfl) rfl dX8_become_16 (fun H locs hW hS => ?_)
  refine lv_iconst (v := 0) hx hb dX8_become_19 (by decide) ?_
  refine lv_istore_n (lv' := [(3, .int 0), (0, .ref a0), (1, .int (-1)), (2, .int 0)]) hx hb dX8_become_20 rfl hl (by decide) rfl (fun ls hl => ?_)
  obtain ⟨x1_, ex1_⟩ : ∃ z : Int32, z = 0 := ⟨_, rfl⟩
  obtain ⟨n21_, hI21_⟩ : ∃ n : Nat, (0 ≤ Int32.toInt x1_ ∧ Int32.toInt x1_ ≤ 60) ∧ (60 - Int32.toInt x1_ < (n : Int)) ∧ zPD D A [(a0, .inr (7, [.int (-1), .int 0, w1]))] H ∧ va_S A s.heap H locs ∧ lv_has ls 4 [(3, .int x1_), (0, .ref a0), (1, .int (-1)), (2, .int 0)] := ⟨(60 - Int32.toInt x1_ + 1).toNat, by rw [ex1_]; exact (by decide), by omega, by (try rw [ex1_]); exact hW, hS, by (try rw [ex1_]); exact hl⟩
  clear hW hS hl ex1_
  induction n21_ generalizing x1_ H locs ls with
  | zero => obtain ⟨bx1_, hn, -⟩ := hI21_; exact absurd hn (by omega)
  | succ n ih =>
    obtain ⟨bx1_, hn, hW, hS, hl⟩ := hI21_
    refine lv_iload_n hx hb dX8_become_21 rfl (lv_at hl 0 rfl) ?_
    refine lv_aload_n hx hb dX8_become_22 rfl (lv_at hl 1 rfl) ?_
    refine zget hx hb ht inlX8 hown hK hW 0 rfl rfl 1 (by decide) zm_133 rfl dX8_become_23 ?_
    refine lv_icmp_ge (tgt := 42) hx hb dX8_become_26 (by decide) (fun c2_ => ?_) (fun c2_ => absurd (by have z0 := bx1_; have e0 : (0 : Int32).toInt = 0 := (by decide); rw [zi_le]; omega) c2_)
    exact zret_v hx hb hr hlocks hS () trivial hW (Nat.le_of_ble_eq_true rfl) (Nat.le_of_ble_eq_true rfl) dX8_become_42
