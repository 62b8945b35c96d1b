set_option maxRecDepth 20000 in
theorem ggL_pays_L_part : GoodIn wsL_pays wsL_part := goodIn_r _ [7] (by decide +kernel) (by decide +kernel)
set_option maxRecDepth 20000 in
theorem gL_pays_L_part : GoodIn wsL_pays (va_wsS RL 30 yL_part wsL_part) := goodIn_app (goodIn_of _ (by decide +kernel)) ggL_pays_L_part
set_option maxRecDepth 20000 in
theorem ggL_pays_L_asks : GoodIn wsL_pays wsL_asks := goodIn_ca (goodIn_ca (goodIn_ca (goodIn_r _ [10, 11, 12, 13, 14, 15, 16, 17, 18, 19, 20, 21, 22, 23, 24, 25, 26, 27, 28, 29, 30, 31, 32, 33, 34, 35, 36, 37, 38, 39, 40, 41, 42, 43, 44, 45, 46, 47, 48, 49, 50, 51, 52, 53, 54, 55, 56, 57, 58, 59, 60, 61, 62, 63, 64, 65, 66, 67, 68, 69, 70, 71, 72, 73, 74, 75, 76, 77, 78, 79, 80, 81, 82, 83, 84, 85, 86, 87, 88, 89, 90, 91, 92, 93, 94, 95, 96, 97, 98, 99, 100, 101, 102, 103, 104, 105, 106, 107, 108, 109, 110, 111, 112, 113, 114, 115, 116, 117, 118, 119, 120, 121, 122, 123, 124, 125, 126, 127, 128, 129, 130, 131, 132, 133, 134, 135, 136, 137, 138, 139, 140, 141, 142, 143, 144, 145, 146, 147, 148, 149, 150, 151, 152, 153, 154, 155, 156, 157, 158, 159, 160, 161, 162, 163, 164, 165, 166, 167, 168, 169, 170, 171, 172, 173, 174, 175, 176, 177, 178, 179, 180, 181, 182, 183, 184, 185, 186, 187, 188, 189, 190, 191, 192, 193, 194, 195, 196, 197, 198, 199, 200, 201, 202, 203, 204, 205, 206, 207, 208, 209, 210, 211, 212, 213, 214, 215, 216, 217, 218, 219, 220, 221, 222, 223, 224, 225, 226, 227, 228, 229, 230, 231, 232, 233, 234, 235, 236, 237, 238, 239, 240, 241, 242, 243, 244, 245, 246, 247, 248, 249, 250, 251, 252, 253, 254, 255, 256, 257, 258, 259, 260, 261, 262, 263, 264, 265, 266, 267, 287, 288, 289, 290, 291, 292, 293, 294, 295, 296, 297, 298, 299, 300, 301, 302, 303, 304, 305, 306, 307, 308, 309, 310] (by decide +kernel) (by decide +kernel)) (goodIn_sub (fun _ h => List.mem_cons_of_mem _ (List.mem_append_left _ (List.mem_append_left _ (List.mem_append_right _ h)))) (by decide +kernel))) (goodIn_sub (fun _ h => List.mem_cons_of_mem _ (List.mem_append_left _ (List.mem_append_right _ h))) (by decide +kernel))) (goodIn_sub (fun _ h => List.mem_cons_of_mem _ (List.mem_append_right _ h)) (by decide +kernel))
set_option maxRecDepth 20000 in
theorem gL_pays_L_asks : GoodIn wsL_pays (va_wsS RL 84 yL_asks wsL_asks) := goodIn_app (goodIn_of _ (by decide +kernel)) ggL_pays_L_asks
set_option maxRecDepth 20000 in
theorem ggL_pays_L_rate : GoodIn wsL_pays wsL_rate := goodIn_r _ [270, 4, 5, 6, 7, 271, 272, 273, 274] (by decide +kernel) (by decide +kernel)
set_option maxRecDepth 20000 in
theorem gL_pays_L_rate : GoodIn wsL_pays (va_wsS RL 64 yL_rate wsL_rate) := goodIn_app (goodIn_of _ (by decide +kernel)) ggL_pays_L_rate
set_option maxRecDepth 20000 in
theorem ggL_pays_X4_gross : GoodIn wsL_pays wsX4_gross := goodIn_ca (goodIn_r _ [278, 24, 25, 26, 15, 27, 28, 29, 30, 31, 32, 33, 34, 35, 36, 37, 38, 39, 40, 41, 42, 43, 44, 45, 46, 47, 48, 49, 50, 51, 52, 53, 54, 55, 56, 57, 58, 59, 60, 61, 62, 63, 64, 65, 66, 67, 68, 69, 70, 71, 305, 306, 307, 290, 291, 292, 293, 294, 295, 296, 297, 298, 287, 288, 289] (by decide +kernel) (by decide +kernel)) (goodIn_sub (fun _ h => List.mem_cons_of_mem _ (List.mem_append_left _ (List.mem_append_right _ h))) (by decide +kernel))
set_option maxRecDepth 20000 in
theorem gL_pays_X4_gross : GoodIn wsL_pays (wsV RL 74 RX4 yX4_gross wsX4_gross) := goodIn_app (goodIn_of _ (by decide +kernel)) ggL_pays_X4_gross
set_option maxRecDepth 20000 in
theorem ggL_pays_X4_due : GoodIn wsL_pays wsX4_due := goodIn_ca (goodIn_r _ [282, 24, 25, 26, 15, 27, 28, 29, 30, 31, 32, 33, 34, 35, 36, 37, 38, 39, 40, 41, 42, 43, 44, 45, 46, 47, 48, 49, 50, 51, 52, 53, 54, 55, 56, 57, 58, 59, 60, 61, 62, 63, 64, 65, 66, 67, 68, 69, 70, 71, 85, 86, 87, 88, 89, 90, 91, 92, 93, 94, 95, 96, 97, 98, 99, 100, 290, 291, 292, 293, 294, 295, 296, 297, 298, 287, 288, 289, 305, 306, 307, 308, 309, 310] (by decide +kernel) (by decide +kernel)) (goodIn_sub (fun _ h => List.mem_cons_of_mem _ (List.mem_append_left _ (List.mem_append_right _ h))) (by decide +kernel))
set_option maxRecDepth 20000 in
theorem gL_pays_X4_due : GoodIn wsL_pays (wsV RL 71 RX4 yX4_due wsX4_due) := goodIn_app (goodIn_of _ (by decide +kernel)) ggL_pays_X4_due
set_option maxRecDepth 20000 in
theorem ggL_pays_X4_held : GoodIn wsL_pays wsX4_held := goodIn_ca (goodIn_r _ [286, 24, 25, 26, 15, 27, 28, 29, 30, 31, 32, 33, 34, 35, 36, 37, 38, 39, 40, 41, 42, 43, 44, 45, 46, 47, 48, 49, 50, 51, 52, 53, 54, 55, 56, 57, 58, 59, 60, 61, 62, 63, 64, 65, 66, 67, 68, 69, 70, 71, 305, 306, 307, 290, 291, 292, 293, 294, 295, 296, 297, 298, 287, 288, 289] (by decide +kernel) (by decide +kernel)) (goodIn_sub (fun _ h => List.mem_cons_of_mem _ (List.mem_append_left _ (List.mem_append_right _ h))) (by decide +kernel))
set_option maxRecDepth 20000 in
theorem gL_pays_X4_held : GoodIn wsL_pays (wsV RL 68 RX4 yX4_held wsX4_held) := goodIn_app (goodIn_of _ (by decide +kernel)) ggL_pays_X4_held
theorem dL_pays_0 : decode cL_pays 0 = .ok (.iconst 0, 1) := by decide +kernel
theorem dL_pays_1 : decode cL_pays 1 = .ok (.istore 5, 2) := by decide +kernel
theorem dL_pays_3 : decode cL_pays 3 = .ok (.iconst 0, 1) := by decide +kernel
theorem dL_pays_4 : decode cL_pays 4 = .ok (.istore 6, 2) := by decide +kernel
theorem dL_pays_6 : decode cL_pays 6 = .ok (.iload 6, 2) := by decide +kernel
theorem dL_pays_8 : decode cL_pays 8 = .ok (.aload 4, 2) := by decide +kernel
theorem dL_pays_10 : decode cL_pays 10 = .ok (.iconst 1, 1) := by decide +kernel
theorem dL_pays_11 : decode cL_pays 11 = .ok (.iaload, 1) := by decide +kernel
theorem dL_pays_12 : decode cL_pays 12 = .ok (.if_icmp .ge 24, 3) := by decide +kernel
theorem dL_pays_15 : decode cL_pays 15 = .ok (.iload 5, 2) := by decide +kernel
theorem dL_pays_17 : decode cL_pays 17 = .ok (.aload_n 2, 1) := by decide +kernel
theorem dL_pays_18 : decode cL_pays 18 = .ok (.iload 6, 2) := by decide +kernel
theorem dL_pays_20 : decode cL_pays 20 = .ok (.laload, 1) := by decide +kernel
theorem dL_pays_21 : decode cL_pays 21 = .ok (.iconst 5, 1) := by decide +kernel
theorem dL_pays_22 : decode cL_pays 22 = .ok (.bipush 20, 2) := by decide +kernel
theorem dL_pays_24 : decode cL_pays 24 = .ok (.invokestatic 30, 3) := by decide +kernel
theorem dL_pays_27 : decode cL_pays 27 = .ok (.iadd, 1) := by decide +kernel
theorem dL_pays_28 : decode cL_pays 28 = .ok (.istore 5, 2) := by decide +kernel
theorem dL_pays_30 : decode cL_pays 30 = .ok (.iinc 6 1, 3) := by decide +kernel
theorem dL_pays_33 : decode cL_pays 33 = .ok (.goto (-27), 3) := by decide +kernel
theorem dL_pays_36 : decode cL_pays 36 = .ok (.aload_n 0, 1) := by decide +kernel
theorem dL_pays_37 : decode cL_pays 37 = .ok (.iconst 3, 1) := by decide +kernel
theorem dL_pays_38 : decode cL_pays 38 = .ok (.iload_n 1, 1) := by decide +kernel
theorem dL_pays_39 : decode cL_pays 39 = .ok (.iconst 0, 1) := by decide +kernel
theorem dL_pays_40 : decode cL_pays 40 = .ok (.invokestatic 84, 3) := by decide +kernel
theorem dL_pays_43 : decode cL_pays 43 = .ok (.istore 6, 2) := by decide +kernel
theorem dL_pays_45 : decode cL_pays 45 = .ok (.iload 5, 2) := by decide +kernel
theorem dL_pays_47 : decode cL_pays 47 = .ok (.ifCond .eq 12, 3) := by decide +kernel
theorem dL_pays_50 : decode cL_pays 50 = .ok (.aload 4, 2) := by decide +kernel
theorem dL_pays_52 : decode cL_pays 52 = .ok (.iconst 2, 1) := by decide +kernel
theorem dL_pays_53 : decode cL_pays 53 = .ok (.iaload, 1) := by decide +kernel
theorem dL_pays_54 : decode cL_pays 54 = .ok (.bipush 40, 2) := by decide +kernel
theorem dL_pays_56 : decode cL_pays 56 = .ok (.if_icmp .ne 16, 3) := by decide +kernel
theorem dL_pays_59 : decode cL_pays 59 = .ok (.iload 6, 2) := by decide +kernel
theorem dL_pays_61 : decode cL_pays 61 = .ok (.bipush (-8), 2) := by decide +kernel
theorem dL_pays_63 : decode cL_pays 63 = .ok (.if_icmp .ne 7, 3) := by decide +kernel
theorem dL_pays_66 : decode cL_pays 66 = .ok (.iconst 1, 1) := by decide +kernel
theorem dL_pays_67 : decode cL_pays 67 = .ok (.goto 4, 3) := by decide +kernel
theorem dL_pays_70 : decode cL_pays 70 = .ok (.iconst 0, 1) := by decide +kernel
theorem dL_pays_71 : decode cL_pays 71 = .ok (.ireturn, 1) := by decide +kernel
theorem dL_pays_72 : decode cL_pays 72 = .ok (.iload 6, 2) := by decide +kernel
theorem dL_pays_74 : decode cL_pays 74 = .ok (.aload 4, 2) := by decide +kernel
theorem dL_pays_76 : decode cL_pays 76 = .ok (.iconst 2, 1) := by decide +kernel
theorem dL_pays_77 : decode cL_pays 77 = .ok (.iaload, 1) := by decide +kernel
theorem dL_pays_78 : decode cL_pays 78 = .ok (.if_icmp .ne 7, 3) := by decide +kernel
theorem dL_pays_81 : decode cL_pays 81 = .ok (.iconst 1, 1) := by decide +kernel
theorem dL_pays_82 : decode cL_pays 82 = .ok (.goto 4, 3) := by decide +kernel
theorem dL_pays_85 : decode cL_pays 85 = .ok (.iconst 0, 1) := by decide +kernel
theorem dL_pays_86 : decode cL_pays 86 = .ok (.istore 7, 2) := by decide +kernel
theorem dL_pays_88 : decode cL_pays 88 = .ok (.iconst 0, 1) := by decide +kernel
theorem dL_pays_89 : decode cL_pays 89 = .ok (.istore 8, 2) := by decide +kernel
theorem dL_pays_91 : decode cL_pays 91 = .ok (.iload 8, 2) := by decide +kernel
theorem dL_pays_93 : decode cL_pays 93 = .ok (.aload 4, 2) := by decide +kernel
theorem dL_pays_95 : decode cL_pays 95 = .ok (.iconst 1, 1) := by decide +kernel
theorem dL_pays_96 : decode cL_pays 96 = .ok (.iaload, 1) := by decide +kernel
theorem dL_pays_97 : decode cL_pays 97 = .ok (.if_icmp .ge 227, 3) := by decide +kernel
theorem dL_pays_100 : decode cL_pays 100 = .ok (.iload 7, 2) := by decide +kernel
theorem dL_pays_102 : decode cL_pays 102 = .ok (.ifCond .eq 222, 3) := by decide +kernel
theorem dL_pays_105 : decode cL_pays 105 = .ok (.aload_n 2, 1) := by decide +kernel
theorem dL_pays_106 : decode cL_pays 106 = .ok (.iload 8, 2) := by decide +kernel
theorem dL_pays_108 : decode cL_pays 108 = .ok (.laload, 1) := by decide +kernel
theorem dL_pays_109 : decode cL_pays 109 = .ok (.iconst 5, 1) := by decide +kernel
theorem dL_pays_110 : decode cL_pays 110 = .ok (.bipush 20, 2) := by decide +kernel
theorem dL_pays_112 : decode cL_pays 112 = .ok (.invokestatic 30, 3) := by decide +kernel
theorem dL_pays_115 : decode cL_pays 115 = .ok (.i2l, 1) := by decide +kernel
theorem dL_pays_116 : decode cL_pays 116 = .ok (.iload_n 1, 1) := by decide +kernel
theorem dL_pays_117 : decode cL_pays 117 = .ok (.i2l, 1) := by decide +kernel
theorem dL_pays_118 : decode cL_pays 118 = .ok (.lmul, 1) := by decide +kernel
theorem dL_pays_119 : decode cL_pays 119 = .ok (.lstore 9, 2) := by decide +kernel
theorem dL_pays_121 : decode cL_pays 121 = .ok (.aload_n 2, 1) := by decide +kernel
theorem dL_pays_122 : decode cL_pays 122 = .ok (.iload 8, 2) := by decide +kernel
theorem dL_pays_124 : decode cL_pays 124 = .ok (.laload, 1) := by decide +kernel
theorem dL_pays_125 : decode cL_pays 125 = .ok (.iconst 0, 1) := by decide +kernel
theorem dL_pays_126 : decode cL_pays 126 = .ok (.iconst 2, 1) := by decide +kernel
theorem dL_pays_127 : decode cL_pays 127 = .ok (.invokestatic 30, 3) := by decide +kernel
theorem dL_pays_130 : decode cL_pays 130 = .ok (.iconst 2, 1) := by decide +kernel
theorem dL_pays_131 : decode cL_pays 131 = .ok (.if_icmp .ge 7, 3) := by decide +kernel
theorem dL_pays_134 : decode cL_pays 134 = .ok (.iconst 1, 1) := by decide +kernel
theorem dL_pays_135 : decode cL_pays 135 = .ok (.goto 4, 3) := by decide +kernel
theorem dL_pays_138 : decode cL_pays 138 = .ok (.iconst 0, 1) := by decide +kernel
theorem dL_pays_139 : decode cL_pays 139 = .ok (.istore 11, 2) := by decide +kernel
theorem dL_pays_141 : decode cL_pays 141 = .ok (.iload 11, 2) := by decide +kernel
theorem dL_pays_143 : decode cL_pays 143 = .ok (.ifCond .eq 15, 3) := by decide +kernel
theorem dL_pays_146 : decode cL_pays 146 = .ok (.aload_n 2, 1) := by decide +kernel
theorem dL_pays_147 : decode cL_pays 147 = .ok (.aload_n 3, 1) := by decide +kernel
theorem dL_pays_148 : decode cL_pays 148 = .ok (.aload 4, 2) := by decide +kernel
theorem dL_pays_150 : decode cL_pays 150 = .ok (.iload 8, 2) := by decide +kernel
theorem dL_pays_152 : decode cL_pays 152 = .ok (.invokestatic 64, 3) := by decide +kernel
theorem dL_pays_155 : decode cL_pays 155 = .ok (.goto 4, 3) := by decide +kernel
theorem dL_pays_158 : decode cL_pays 158 = .ok (.iconst 0, 1) := by decide +kernel
theorem dL_pays_159 : decode cL_pays 159 = .ok (.istore 12, 2) := by decide +kernel
theorem dL_pays_161 : decode cL_pays 161 = .ok (.aload_n 2, 1) := by decide +kernel
theorem dL_pays_162 : decode cL_pays 162 = .ok (.iload 8, 2) := by decide +kernel
theorem dL_pays_164 : decode cL_pays 164 = .ok (.laload, 1) := by decide +kernel
theorem dL_pays_165 : decode cL_pays 165 = .ok (.bipush 25, 2) := by decide +kernel
theorem dL_pays_167 : decode cL_pays 167 = .ok (.bipush 15, 2) := by decide +kernel
theorem dL_pays_169 : decode cL_pays 169 = .ok (.invokestatic 30, 3) := by decide +kernel
theorem dL_pays_172 : decode cL_pays 172 = .ok (.aload 4, 2) := by decide +kernel
theorem dL_pays_174 : decode cL_pays 174 = .ok (.iconst 0, 1) := by decide +kernel
theorem dL_pays_175 : decode cL_pays 175 = .ok (.iaload, 1) := by decide +kernel
theorem dL_pays_176 : decode cL_pays 176 = .ok (.if_icmp .le 7, 3) := by decide +kernel
theorem dL_pays_179 : decode cL_pays 179 = .ok (.iconst 1, 1) := by decide +kernel
theorem dL_pays_180 : decode cL_pays 180 = .ok (.goto 4, 3) := by decide +kernel
theorem dL_pays_183 : decode cL_pays 183 = .ok (.iconst 0, 1) := by decide +kernel
theorem dL_pays_184 : decode cL_pays 184 = .ok (.istore 13, 2) := by decide +kernel
theorem dL_pays_186 : decode cL_pays 186 = .ok (.aload_n 0, 1) := by decide +kernel
theorem dL_pays_187 : decode cL_pays 187 = .ok (.iload 6, 2) := by decide +kernel
theorem dL_pays_189 : decode cL_pays 189 = .ok (.iload 8, 2) := by decide +kernel
theorem dL_pays_191 : decode cL_pays 191 = .ok (.invokevirtual 74, 3) := by decide +kernel
theorem dL_pays_194 : decode cL_pays 194 = .ok (.i2l, 1) := by decide +kernel
theorem dL_pays_195 : decode cL_pays 195 = .ok (.lload 9, 2) := by decide +kernel
theorem dL_pays_197 : decode cL_pays 197 = .ok (.lcmp, 1) := by decide +kernel
theorem dL_pays_198 : decode cL_pays 198 = .ok (.ifCond .ne 68, 3) := by decide +kernel
theorem dL_pays_201 : decode cL_pays 201 = .ok (.iload 11, 2) := by decide +kernel
theorem dL_pays_203 : decode cL_pays 203 = .ok (.ifCond .eq 59, 3) := by decide +kernel
theorem dL_pays_206 : decode cL_pays 206 = .ok (.aload_n 0, 1) := by decide +kernel
theorem dL_pays_207 : decode cL_pays 207 = .ok (.iload 6, 2) := by decide +kernel
theorem dL_pays_209 : decode cL_pays 209 = .ok (.iload 8, 2) := by decide +kernel
theorem dL_pays_211 : decode cL_pays 211 = .ok (.invokevirtual 71, 3) := by decide +kernel
theorem dL_pays_214 : decode cL_pays 214 = .ok (.i2l, 1) := by decide +kernel
theorem dL_pays_215 : decode cL_pays 215 = .ok (.lload 9, 2) := by decide +kernel
theorem dL_pays_217 : decode cL_pays 217 = .ok (.iload 12, 2) := by decide +kernel
theorem dL_pays_219 : decode cL_pays 219 = .ok (.i2l, 1) := by decide +kernel
theorem dL_pays_220 : decode cL_pays 220 = .ok (.lmul, 1) := by decide +kernel
theorem dL_pays_221 : decode cL_pays 221 = .ok (.ldc2_w 79, 3) := by decide +kernel
theorem dL_pays_224 : decode cL_pays 224 = .ok (.ldiv, 1) := by decide +kernel
theorem dL_pays_225 : decode cL_pays 225 = .ok (.lcmp, 1) := by decide +kernel
theorem dL_pays_226 : decode cL_pays 226 = .ok (.ifCond .ne 40, 3) := by decide +kernel
theorem dL_pays_229 : decode cL_pays 229 = .ok (.aload_n 0, 1) := by decide +kernel
theorem dL_pays_230 : decode cL_pays 230 = .ok (.iload 6, 2) := by decide +kernel
theorem dL_pays_232 : decode cL_pays 232 = .ok (.iload 8, 2) := by decide +kernel
theorem dL_pays_234 : decode cL_pays 234 = .ok (.invokevirtual 68, 3) := by decide +kernel
theorem dL_pays_237 : decode cL_pays 237 = .ok (.i2l, 1) := by decide +kernel
theorem dL_pays_238 : decode cL_pays 238 = .ok (.lload 9, 2) := by decide +kernel
theorem dL_pays_240 : decode cL_pays 240 = .ok (.iload 13, 2) := by decide +kernel
theorem dL_pays_242 : decode cL_pays 242 = .ok (.ifCond .eq 8, 3) := by decide +kernel
theorem dL_pays_245 : decode cL_pays 245 = .ok (.iload 12, 2) := by decide +kernel
theorem dL_pays_247 : decode cL_pays 247 = .ok (.goto 5, 3) := by decide +kernel
theorem dL_pays_250 : decode cL_pays 250 = .ok (.bipush 30, 2) := by decide +kernel
theorem dL_pays_252 : decode cL_pays 252 = .ok (.i2l, 1) := by decide +kernel
theorem dL_pays_253 : decode cL_pays 253 = .ok (.lmul, 1) := by decide +kernel
theorem dL_pays_254 : decode cL_pays 254 = .ok (.ldc2_w 79, 3) := by decide +kernel
theorem dL_pays_257 : decode cL_pays 257 = .ok (.ldiv, 1) := by decide +kernel
theorem dL_pays_258 : decode cL_pays 258 = .ok (.lcmp, 1) := by decide +kernel
theorem dL_pays_259 : decode cL_pays 259 = .ok (.ifCond .ne 7, 3) := by decide +kernel
theorem dL_pays_262 : decode cL_pays 262 = .ok (.iconst 1, 1) := by decide +kernel
theorem dL_pays_263 : decode cL_pays 263 = .ok (.goto 4, 3) := by decide +kernel
theorem dL_pays_266 : decode cL_pays 266 = .ok (.iconst 0, 1) := by decide +kernel
theorem dL_pays_267 : decode cL_pays 267 = .ok (.istore 7, 2) := by decide +kernel
theorem dL_pays_269 : decode cL_pays 269 = .ok (.iload 7, 2) := by decide +kernel
theorem dL_pays_271 : decode cL_pays 271 = .ok (.ifCond .eq 44, 3) := by decide +kernel
theorem dL_pays_274 : decode cL_pays 274 = .ok (.iload 11, 2) := by decide +kernel
theorem dL_pays_276 : decode cL_pays 276 = .ok (.ifCond .ne 35, 3) := by decide +kernel
theorem dL_pays_279 : decode cL_pays 279 = .ok (.iload 13, 2) := by decide +kernel
theorem dL_pays_281 : decode cL_pays 281 = .ok (.ifCond .ne 30, 3) := by decide +kernel
theorem dL_pays_284 : decode cL_pays 284 = .ok (.lload 9, 2) := by decide +kernel
theorem dL_pays_286 : decode cL_pays 286 = .ok (.ldc2_w 77, 3) := by decide +kernel
theorem dL_pays_289 : decode cL_pays 289 = .ok (.lmul, 1) := by decide +kernel
theorem dL_pays_290 : decode cL_pays 290 = .ok (.ldc2_w 79, 3) := by decide +kernel
theorem dL_pays_293 : decode cL_pays 293 = .ok (.ldiv, 1) := by decide +kernel
theorem dL_pays_294 : decode cL_pays 294 = .ok (.aload_n 0, 1) := by decide +kernel
theorem dL_pays_295 : decode cL_pays 295 = .ok (.iload 6, 2) := by decide +kernel
theorem dL_pays_297 : decode cL_pays 297 = .ok (.iload 8, 2) := by decide +kernel
theorem dL_pays_299 : decode cL_pays 299 = .ok (.invokevirtual 68, 3) := by decide +kernel
theorem dL_pays_302 : decode cL_pays 302 = .ok (.i2l, 1) := by decide +kernel
theorem dL_pays_303 : decode cL_pays 303 = .ok (.lsub, 1) := by decide +kernel
theorem dL_pays_304 : decode cL_pays 304 = .ok (.ldc2_w 88, 3) := by decide +kernel
theorem dL_pays_307 : decode cL_pays 307 = .ok (.lcmp, 1) := by decide +kernel
theorem dL_pays_308 : decode cL_pays 308 = .ok (.ifCond .ge 7, 3) := by decide +kernel
theorem dL_pays_311 : decode cL_pays 311 = .ok (.iconst 1, 1) := by decide +kernel
theorem dL_pays_312 : decode cL_pays 312 = .ok (.goto 4, 3) := by decide +kernel
theorem dL_pays_315 : decode cL_pays 315 = .ok (.iconst 0, 1) := by decide +kernel
theorem dL_pays_316 : decode cL_pays 316 = .ok (.istore 7, 2) := by decide +kernel
theorem dL_pays_318 : decode cL_pays 318 = .ok (.iinc 8 1, 3) := by decide +kernel
theorem dL_pays_321 : decode cL_pays 321 = .ok (.goto (-230), 3) := by decide +kernel
theorem dL_pays_324 : decode cL_pays 324 = .ok (.aload 4, 2) := by decide +kernel
theorem dL_pays_326 : decode cL_pays 326 = .ok (.iconst 2, 1) := by decide +kernel
theorem dL_pays_327 : decode cL_pays 327 = .ok (.dup2, 1) := by decide +kernel
theorem dL_pays_328 : decode cL_pays 328 = .ok (.iaload, 1) := by decide +kernel
theorem dL_pays_329 : decode cL_pays 329 = .ok (.iconst 1, 1) := by decide +kernel
theorem dL_pays_330 : decode cL_pays 330 = .ok (.iadd, 1) := by decide +kernel
theorem dL_pays_331 : decode cL_pays 331 = .ok (.iastore, 1) := by decide +kernel
theorem dL_pays_332 : decode cL_pays 332 = .ok (.iload 7, 2) := by decide +kernel
theorem dL_pays_334 : decode cL_pays 334 = .ok (.ireturn, 1) := by decide +kernel
set_option maxRecDepth 20000 in
theorem ggL_refunds_X4_held : GoodIn wsL_refunds wsX4_held := goodIn_ca (goodIn_r _ [5, 6, 7, 8, 4, 9, 10, 11, 12, 13, 14, 15, 16, 17, 18, 19, 20, 21, 22, 23, 24, 25, 26, 27, 28, 29, 30, 31, 32, 33, 34, 35, 36, 37, 38, 39, 40, 41, 42, 43, 44, 45, 46, 47, 48, 49, 50, 51, 52, 53, 277, 278, 279, 280, 281, 282, 283, 284, 285, 286, 287, 288, 289, 290, 291] (by decide +kernel) (by decide +kernel)) (goodIn_sub (fun _ h => List.mem_cons_of_mem _ (List.mem_append_left _ (List.mem_append_left _ (List.mem_append_right _ h)))) (by decide +kernel))
set_option maxRecDepth 20000 in
theorem gL_refunds_X4_held : GoodIn wsL_refunds (wsV RL 68 RX4 yX4_held wsX4_held) := goodIn_app (goodIn_of _ (by decide +kernel)) ggL_refunds_X4_held
set_option maxRecDepth 20000 in
theorem ggL_refunds_X4_due : GoodIn wsL_refunds wsX4_due := goodIn_ca (goodIn_r _ [57, 6, 7, 8, 4, 9, 10, 11, 12, 13, 14, 15, 16, 17, 18, 19, 20, 21, 22, 23, 24, 25, 26, 27, 28, 29, 30, 31, 32, 33, 34, 35, 36, 37, 38, 39, 40, 41, 42, 43, 44, 45, 46, 47, 48, 49, 50, 51, 52, 53, 58, 59, 60, 61, 62, 63, 64, 65, 66, 67, 68, 69, 70, 71, 72, 73, 280, 281, 282, 283, 284, 285, 286, 287, 288, 289, 290, 291, 277, 278, 279, 292, 293, 294] (by decide +kernel) (by decide +kernel)) (goodIn_sub (fun _ h => List.mem_cons_of_mem _ (List.mem_append_left _ (List.mem_append_left _ (List.mem_append_right _ h)))) (by decide +kernel))
set_option maxRecDepth 20000 in
theorem gL_refunds_X4_due : GoodIn wsL_refunds (wsV RL 71 RX4 yX4_due wsX4_due) := goodIn_app (goodIn_of _ (by decide +kernel)) ggL_refunds_X4_due
set_option maxRecDepth 20000 in
theorem ggL_refunds_L_part : GoodIn wsL_refunds wsL_part := goodIn_r _ [77] (by decide +kernel) (by decide +kernel)
set_option maxRecDepth 20000 in
theorem gL_refunds_L_part : GoodIn wsL_refunds (va_wsS RL 30 yL_part wsL_part) := goodIn_app (goodIn_of _ (by decide +kernel)) ggL_refunds_L_part
set_option maxRecDepth 20000 in
theorem ggL_refunds_X4_gross : GoodIn wsL_refunds wsX4_gross := goodIn_ca (goodIn_r _ [81, 6, 7, 8, 4, 9, 10, 11, 12, 13, 14, 15, 16, 17, 18, 19, 20, 21, 22, 23, 24, 25, 26, 27, 28, 29, 30, 31, 32, 33, 34, 35, 36, 37, 38, 39, 40, 41, 42, 43, 44, 45, 46, 47, 48, 49, 50, 51, 52, 53, 277, 278, 279, 280, 281, 282, 283, 284, 285, 286, 287, 288, 289, 290, 291] (by decide +kernel) (by decide +kernel)) (goodIn_sub (fun _ h => List.mem_cons_of_mem _ (List.mem_append_left _ (List.mem_append_left _ (List.mem_append_right _ h)))) (by decide +kernel))
set_option maxRecDepth 20000 in
theorem gL_refunds_X4_gross : GoodIn wsL_refunds (wsV RL 74 RX4 yX4_gross wsX4_gross) := goodIn_app (goodIn_of _ (by decide +kernel)) ggL_refunds_X4_gross
set_option maxRecDepth 20000 in
theorem ggL_refunds_L_asks : GoodIn wsL_refunds wsL_asks := goodIn_ca (goodIn_ca (goodIn_ca (goodIn_r _ [84, 85, 86, 87, 88, 4, 89, 90, 91, 92, 93, 94, 95, 96, 6, 7, 8, 9, 10, 11, 12, 13, 14, 15, 16, 17, 18, 19, 20, 21, 22, 23, 24, 25, 26, 27, 28, 29, 30, 31, 32, 33, 34, 35, 36, 37, 38, 39, 40, 41, 42, 43, 44, 45, 46, 47, 48, 49, 50, 51, 52, 53, 97, 98, 99, 100, 101, 102, 103, 104, 105, 106, 107, 108, 109, 58, 59, 60, 61, 62, 63, 64, 65, 66, 67, 68, 69, 70, 71, 72, 73, 110, 111, 112, 113, 114, 115, 116, 117, 118, 119, 120, 121, 122, 123, 124, 125, 126, 127, 128, 129, 130, 131, 132, 133, 134, 135, 136, 137, 138, 139, 140, 141, 142, 143, 144, 145, 146, 147, 148, 149, 150, 151, 152, 153, 154, 155, 156, 157, 158, 159, 160, 161, 162, 163, 164, 165, 166, 167, 168, 169, 170, 171, 172, 173, 174, 175, 176, 177, 178, 179, 180, 181, 182, 183, 184, 185, 186, 187, 188, 189, 190, 191, 192, 193, 194, 195, 196, 197, 198, 199, 200, 201, 202, 203, 204, 205, 206, 207, 208, 209, 210, 211, 212, 213, 214, 215, 216, 217, 218, 219, 220, 221, 222, 223, 224, 225, 226, 227, 228, 229, 230, 231, 232, 233, 234, 235, 236, 237, 238, 239, 240, 241, 242, 243, 244, 245, 246, 247, 248, 249, 250, 251, 252, 253, 254, 255, 256, 257, 258, 259, 260, 261, 262, 263, 264, 265, 266, 267, 268, 269, 270, 271, 272, 273, 274, 275, 276, 289, 290, 291, 280, 281, 282, 283, 284, 285, 286, 287, 288, 295, 296, 297, 298, 299, 300, 277, 278, 279, 292, 293, 294] (by decide +kernel) (by decide +kernel)) (goodIn_sub (fun _ h => List.mem_cons_of_mem _ (List.mem_append_left _ (List.mem_append_right _ h))) (by decide +kernel))) (goodIn_sub (fun _ h => List.mem_cons_of_mem _ (List.mem_append_left _ (List.mem_append_left _ (List.mem_append_right _ h)))) (by decide +kernel))) (goodIn_sub (fun _ h => List.mem_cons_of_mem _ (List.mem_append_right _ h)) (by decide +kernel))
set_option maxRecDepth 20000 in
theorem gL_refunds_L_asks : GoodIn wsL_refunds (va_wsS RL 84 yL_asks wsL_asks) := goodIn_app (goodIn_of _ (by decide +kernel)) ggL_refunds_L_asks
theorem dL_refunds_0 : decode cL_refunds 0 = .ok (.aload_n 0, 1) := by decide +kernel
theorem dL_refunds_1 : decode cL_refunds 1 = .ok (.iload_n 2, 1) := by decide +kernel
theorem dL_refunds_2 : decode cL_refunds 2 = .ok (.iload_n 3, 1) := by decide +kernel
theorem dL_refunds_3 : decode cL_refunds 3 = .ok (.invokevirtual 68, 3) := by decide +kernel
theorem dL_refunds_6 : decode cL_refunds 6 = .ok (.istore 8, 2) := by decide +kernel
theorem dL_refunds_8 : decode cL_refunds 8 = .ok (.aload_n 0, 1) := by decide +kernel
theorem dL_refunds_9 : decode cL_refunds 9 = .ok (.iload_n 2, 1) := by decide +kernel
theorem dL_refunds_10 : decode cL_refunds 10 = .ok (.iload_n 3, 1) := by decide +kernel
theorem dL_refunds_11 : decode cL_refunds 11 = .ok (.invokevirtual 71, 3) := by decide +kernel
theorem dL_refunds_14 : decode cL_refunds 14 = .ok (.istore 9, 2) := by decide +kernel
theorem dL_refunds_16 : decode cL_refunds 16 = .ok (.aload 4, 2) := by decide +kernel
theorem dL_refunds_18 : decode cL_refunds 18 = .ok (.iload_n 3, 1) := by decide +kernel
theorem dL_refunds_19 : decode cL_refunds 19 = .ok (.laload, 1) := by decide +kernel
theorem dL_refunds_20 : decode cL_refunds 20 = .ok (.bipush 25, 2) := by decide +kernel
theorem dL_refunds_22 : decode cL_refunds 22 = .ok (.bipush 15, 2) := by decide +kernel
theorem dL_refunds_24 : decode cL_refunds 24 = .ok (.invokestatic 30, 3) := by decide +kernel
theorem dL_refunds_27 : decode cL_refunds 27 = .ok (.aload 6, 2) := by decide +kernel
theorem dL_refunds_29 : decode cL_refunds 29 = .ok (.iconst 0, 1) := by decide +kernel
theorem dL_refunds_30 : decode cL_refunds 30 = .ok (.iaload, 1) := by decide +kernel
theorem dL_refunds_31 : decode cL_refunds 31 = .ok (.if_icmp .le 7, 3) := by decide +kernel
theorem dL_refunds_34 : decode cL_refunds 34 = .ok (.iconst 1, 1) := by decide +kernel
theorem dL_refunds_35 : decode cL_refunds 35 = .ok (.goto 4, 3) := by decide +kernel
theorem dL_refunds_38 : decode cL_refunds 38 = .ok (.iconst 0, 1) := by decide +kernel
theorem dL_refunds_39 : decode cL_refunds 39 = .ok (.istore 10, 2) := by decide +kernel
theorem dL_refunds_41 : decode cL_refunds 41 = .ok (.aload_n 0, 1) := by decide +kernel
theorem dL_refunds_42 : decode cL_refunds 42 = .ok (.iload_n 2, 1) := by decide +kernel
theorem dL_refunds_43 : decode cL_refunds 43 = .ok (.iload_n 3, 1) := by decide +kernel
theorem dL_refunds_44 : decode cL_refunds 44 = .ok (.invokevirtual 74, 3) := by decide +kernel
theorem dL_refunds_47 : decode cL_refunds 47 = .ok (.ifCond .le 40, 3) := by decide +kernel
theorem dL_refunds_50 : decode cL_refunds 50 = .ok (.aload 6, 2) := by decide +kernel
theorem dL_refunds_52 : decode cL_refunds 52 = .ok (.iconst 0, 1) := by decide +kernel
theorem dL_refunds_53 : decode cL_refunds 53 = .ok (.iaload, 1) := by decide +kernel
theorem dL_refunds_54 : decode cL_refunds 54 = .ok (.aload 5, 2) := by decide +kernel
theorem dL_refunds_56 : decode cL_refunds 56 = .ok (.iload_n 2, 1) := by decide +kernel
theorem dL_refunds_57 : decode cL_refunds 57 = .ok (.iaload, 1) := by decide +kernel
theorem dL_refunds_58 : decode cL_refunds 58 = .ok (.isub, 1) := by decide +kernel
theorem dL_refunds_59 : decode cL_refunds 59 = .ok (.iload_n 1, 1) := by decide +kernel
theorem dL_refunds_60 : decode cL_refunds 60 = .ok (.ifCond .ne 8, 3) := by decide +kernel
theorem dL_refunds_63 : decode cL_refunds 63 = .ok (.bipush 60, 2) := by decide +kernel
theorem dL_refunds_65 : decode cL_refunds 65 = .ok (.goto 6, 3) := by decide +kernel
theorem dL_refunds_68 : decode cL_refunds 68 = .ok (.sipush 1080, 3) := by decide +kernel
theorem dL_refunds_71 : decode cL_refunds 71 = .ok (.if_icmp .gt 16, 3) := by decide +kernel
theorem dL_refunds_74 : decode cL_refunds 74 = .ok (.iload_n 1, 1) := by decide +kernel
theorem dL_refunds_75 : decode cL_refunds 75 = .ok (.ifCond .eq 8, 3) := by decide +kernel
theorem dL_refunds_78 : decode cL_refunds 78 = .ok (.iload 10, 2) := by decide +kernel
theorem dL_refunds_80 : decode cL_refunds 80 = .ok (.ifCond .eq 7, 3) := by decide +kernel
theorem dL_refunds_83 : decode cL_refunds 83 = .ok (.iconst 1, 1) := by decide +kernel
theorem dL_refunds_84 : decode cL_refunds 84 = .ok (.goto 4, 3) := by decide +kernel
theorem dL_refunds_87 : decode cL_refunds 87 = .ok (.iconst 0, 1) := by decide +kernel
theorem dL_refunds_88 : decode cL_refunds 88 = .ok (.istore 11, 2) := by decide +kernel
theorem dL_refunds_90 : decode cL_refunds 90 = .ok (.aload_n 0, 1) := by decide +kernel
theorem dL_refunds_91 : decode cL_refunds 91 = .ok (.iload_n 1, 1) := by decide +kernel
theorem dL_refunds_92 : decode cL_refunds 92 = .ok (.iload_n 2, 1) := by decide +kernel
theorem dL_refunds_93 : decode cL_refunds 93 = .ok (.iload_n 3, 1) := by decide +kernel
theorem dL_refunds_94 : decode cL_refunds 94 = .ok (.invokestatic 84, 3) := by decide +kernel
theorem dL_refunds_97 : decode cL_refunds 97 = .ok (.istore 12, 2) := by decide +kernel
theorem dL_refunds_99 : decode cL_refunds 99 = .ok (.iload 11, 2) := by decide +kernel
theorem dL_refunds_101 : decode cL_refunds 101 = .ok (.ifCond .ne 27, 3) := by decide +kernel
theorem dL_refunds_104 : decode cL_refunds 104 = .ok (.iload 12, 2) := by decide +kernel
theorem dL_refunds_106 : decode cL_refunds 106 = .ok (.bipush (-8), 2) := by decide +kernel
theorem dL_refunds_108 : decode cL_refunds 108 = .ok (.if_icmp .ne 18, 3) := by decide +kernel
theorem dL_refunds_111 : decode cL_refunds 111 = .ok (.aload_n 0, 1) := by decide +kernel
theorem dL_refunds_112 : decode cL_refunds 112 = .ok (.iload_n 2, 1) := by decide +kernel
theorem dL_refunds_113 : decode cL_refunds 113 = .ok (.iload_n 3, 1) := by decide +kernel
theorem dL_refunds_114 : decode cL_refunds 114 = .ok (.invokevirtual 68, 3) := by decide +kernel
theorem dL_refunds_117 : decode cL_refunds 117 = .ok (.iload 8, 2) := by decide +kernel
theorem dL_refunds_119 : decode cL_refunds 119 = .ok (.if_icmp .ne 7, 3) := by decide +kernel
theorem dL_refunds_122 : decode cL_refunds 122 = .ok (.iconst 1, 1) := by decide +kernel
theorem dL_refunds_123 : decode cL_refunds 123 = .ok (.goto 4, 3) := by decide +kernel
theorem dL_refunds_126 : decode cL_refunds 126 = .ok (.iconst 0, 1) := by decide +kernel
theorem dL_refunds_127 : decode cL_refunds 127 = .ok (.ireturn, 1) := by decide +kernel
theorem dL_refunds_128 : decode cL_refunds 128 = .ok (.aload 7, 2) := by decide +kernel
theorem dL_refunds_130 : decode cL_refunds 130 = .ok (.iconst 0, 1) := by decide +kernel
theorem dL_refunds_131 : decode cL_refunds 131 = .ok (.dup2, 1) := by decide +kernel
theorem dL_refunds_132 : decode cL_refunds 132 = .ok (.laload, 1) := by decide +kernel
theorem dL_refunds_133 : decode cL_refunds 133 = .ok (.iload 12, 2) := by decide +kernel
theorem dL_refunds_135 : decode cL_refunds 135 = .ok (.i2l, 1) := by decide +kernel
theorem dL_refunds_136 : decode cL_refunds 136 = .ok (.ladd, 1) := by decide +kernel
theorem dL_refunds_137 : decode cL_refunds 137 = .ok (.lastore, 1) := by decide +kernel
theorem dL_refunds_138 : decode cL_refunds 138 = .ok (.iload 12, 2) := by decide +kernel
theorem dL_refunds_140 : decode cL_refunds 140 = .ok (.ifCond .lt 46, 3) := by decide +kernel
theorem dL_refunds_143 : decode cL_refunds 143 = .ok (.aload_n 0, 1) := by decide +kernel
theorem dL_refunds_144 : decode cL_refunds 144 = .ok (.iload_n 2, 1) := by decide +kernel
theorem dL_refunds_145 : decode cL_refunds 145 = .ok (.iload_n 3, 1) := by decide +kernel
theorem dL_refunds_146 : decode cL_refunds 146 = .ok (.invokevirtual 68, 3) := by decide +kernel
theorem dL_refunds_149 : decode cL_refunds 149 = .ok (.iload 8, 2) := by decide +kernel
theorem dL_refunds_151 : decode cL_refunds 151 = .ok (.iload 12, 2) := by decide +kernel
theorem dL_refunds_153 : decode cL_refunds 153 = .ok (.isub, 1) := by decide +kernel
theorem dL_refunds_154 : decode cL_refunds 154 = .ok (.if_icmp .ne 32, 3) := by decide +kernel
theorem dL_refunds_157 : decode cL_refunds 157 = .ok (.aload_n 0, 1) := by decide +kernel
theorem dL_refunds_158 : decode cL_refunds 158 = .ok (.iload_n 2, 1) := by decide +kernel
theorem dL_refunds_159 : decode cL_refunds 159 = .ok (.iload_n 3, 1) := by decide +kernel
theorem dL_refunds_160 : decode cL_refunds 160 = .ok (.invokevirtual 68, 3) := by decide +kernel
theorem dL_refunds_163 : decode cL_refunds 163 = .ok (.iload 9, 2) := by decide +kernel
theorem dL_refunds_165 : decode cL_refunds 165 = .ok (.if_icmp .lt 21, 3) := by decide +kernel
theorem dL_refunds_168 : decode cL_refunds 168 = .ok (.iload_n 1, 1) := by decide +kernel
theorem dL_refunds_169 : decode cL_refunds 169 = .ok (.ifCond .eq 13, 3) := by decide +kernel
theorem dL_refunds_172 : decode cL_refunds 172 = .ok (.iload 12, 2) := by decide +kernel
theorem dL_refunds_174 : decode cL_refunds 174 = .ok (.iload 8, 2) := by decide +kernel
theorem dL_refunds_176 : decode cL_refunds 176 = .ok (.iload 9, 2) := by decide +kernel
theorem dL_refunds_178 : decode cL_refunds 178 = .ok (.isub, 1) := by decide +kernel
theorem dL_refunds_179 : decode cL_refunds 179 = .ok (.if_icmp .ne 7, 3) := by decide +kernel
theorem dL_refunds_182 : decode cL_refunds 182 = .ok (.iconst 1, 1) := by decide +kernel
theorem dL_refunds_183 : decode cL_refunds 183 = .ok (.goto 4, 3) := by decide +kernel
theorem dL_refunds_186 : decode cL_refunds 186 = .ok (.iconst 0, 1) := by decide +kernel
theorem dL_refunds_187 : decode cL_refunds 187 = .ok (.istore 13, 2) := by decide +kernel
theorem dL_refunds_189 : decode cL_refunds 189 = .ok (.iload_n 1, 1) := by decide +kernel
theorem dL_refunds_190 : decode cL_refunds 190 = .ok (.ifCond .ne 25, 3) := by decide +kernel
theorem dL_refunds_193 : decode cL_refunds 193 = .ok (.iload 10, 2) := by decide +kernel
theorem dL_refunds_195 : decode cL_refunds 195 = .ok (.ifCond .eq 20, 3) := by decide +kernel
theorem dL_refunds_198 : decode cL_refunds 198 = .ok (.aload 4, 2) := by decide +kernel
theorem dL_refunds_200 : decode cL_refunds 200 = .ok (.iload_n 3, 1) := by decide +kernel
theorem dL_refunds_201 : decode cL_refunds 201 = .ok (.laload, 1) := by decide +kernel
theorem dL_refunds_202 : decode cL_refunds 202 = .ok (.iconst 0, 1) := by decide +kernel
theorem dL_refunds_203 : decode cL_refunds 203 = .ok (.iconst 2, 1) := by decide +kernel
theorem dL_refunds_204 : decode cL_refunds 204 = .ok (.invokestatic 30, 3) := by decide +kernel
theorem dL_refunds_207 : decode cL_refunds 207 = .ok (.iconst 2, 1) := by decide +kernel
theorem dL_refunds_208 : decode cL_refunds 208 = .ok (.if_icmp .ge 7, 3) := by decide +kernel
theorem dL_refunds_211 : decode cL_refunds 211 = .ok (.iconst 1, 1) := by decide +kernel
theorem dL_refunds_212 : decode cL_refunds 212 = .ok (.goto 4, 3) := by decide +kernel
theorem dL_refunds_215 : decode cL_refunds 215 = .ok (.iconst 0, 1) := by decide +kernel
theorem dL_refunds_216 : decode cL_refunds 216 = .ok (.istore 14, 2) := by decide +kernel
theorem dL_refunds_218 : decode cL_refunds 218 = .ok (.iload 13, 2) := by decide +kernel
theorem dL_refunds_220 : decode cL_refunds 220 = .ok (.ifCond .eq 32, 3) := by decide +kernel
theorem dL_refunds_223 : decode cL_refunds 223 = .ok (.iload 14, 2) := by decide +kernel
theorem dL_refunds_225 : decode cL_refunds 225 = .ok (.ifCond .eq 13, 3) := by decide +kernel
theorem dL_refunds_228 : decode cL_refunds 228 = .ok (.iload 12, 2) := by decide +kernel
theorem dL_refunds_230 : decode cL_refunds 230 = .ok (.iload 8, 2) := by decide +kernel
theorem dL_refunds_232 : decode cL_refunds 232 = .ok (.iload 9, 2) := by decide +kernel
theorem dL_refunds_234 : decode cL_refunds 234 = .ok (.isub, 1) := by decide +kernel
theorem dL_refunds_235 : decode cL_refunds 235 = .ok (.if_icmp .ne 17, 3) := by decide +kernel
theorem dL_refunds_238 : decode cL_refunds 238 = .ok (.aload_n 0, 1) := by decide +kernel
theorem dL_refunds_239 : decode cL_refunds 239 = .ok (.iload_n 1, 1) := by decide +kernel
theorem dL_refunds_240 : decode cL_refunds 240 = .ok (.iload_n 2, 1) := by decide +kernel
theorem dL_refunds_241 : decode cL_refunds 241 = .ok (.iload_n 3, 1) := by decide +kernel
theorem dL_refunds_242 : decode cL_refunds 242 = .ok (.invokestatic 84, 3) := by decide +kernel
theorem dL_refunds_245 : decode cL_refunds 245 = .ok (.ifCond .ne 7, 3) := by decide +kernel
theorem dL_refunds_248 : decode cL_refunds 248 = .ok (.iconst 1, 1) := by decide +kernel
theorem dL_refunds_249 : decode cL_refunds 249 = .ok (.goto 4, 3) := by decide +kernel
theorem dL_refunds_252 : decode cL_refunds 252 = .ok (.iconst 0, 1) := by decide +kernel
theorem dL_refunds_253 : decode cL_refunds 253 = .ok (.ireturn, 1) := by decide +kernel
set_option maxRecDepth 20000 in
theorem ggL_shares_L_part : GoodIn wsL_shares wsL_part := goodIn_r _ [5] (by decide +kernel) (by decide +kernel)
set_option maxRecDepth 20000 in
theorem gL_shares_L_part : GoodIn wsL_shares (va_wsS RL 30 yL_part wsL_part) := goodIn_app (goodIn_of _ (by decide +kernel)) ggL_shares_L_part
set_option maxRecDepth 20000 in
theorem ggL_shares_L_asks : GoodIn wsL_shares wsL_asks := goodIn_ca (goodIn_ca (goodIn_ca (goodIn_r _ [8, 9, 10, 11, 12, 13, 14, 15, 16, 17, 18, 19, 20, 21, 22, 23, 24, 25, 26, 27, 28, 29, 30, 31, 32, 33, 34, 35, 36, 37, 38, 39, 40, 41, 42, 43, 44, 45, 46, 47, 48, 49, 50, 51, 52, 53, 54, 55, 56, 57, 58, 59, 60, 61, 62, 63, 64, 65, 66, 67, 68, 69, 70, 71, 72, 73, 74, 75, 76, 77, 78, 79, 80, 81, 82, 83, 84, 85, 86, 87, 88, 89, 90, 91, 92, 93, 94, 95, 96, 97, 98, 99, 100, 101, 102, 103, 104, 105, 106, 107, 108, 109, 110, 111, 112, 113, 114, 115, 116, 117, 118, 119, 120, 121, 122, 123, 124, 125, 126, 127, 128, 129, 130, 131, 132, 133, 134, 135, 136, 137, 138, 139, 140, 141, 142, 143, 144, 145, 146, 147, 148, 149, 150, 151, 152, 153, 154, 155, 156, 157, 158, 159, 160, 161, 162, 163, 164, 165, 166, 167, 168, 169, 170, 171, 172, 173, 174, 175, 176, 177, 178, 179, 180, 181, 182, 183, 184, 185, 186, 187, 188, 189, 190, 191, 192, 193, 194, 195, 196, 197, 198, 199, 200, 201, 202, 203, 204, 205, 206, 207, 208, 209, 210, 211, 212, 213, 214, 215, 216, 217, 218, 219, 220, 221, 222, 223, 224, 225, 226, 227, 228, 229, 230, 231, 232, 233, 234, 235, 236, 237, 238, 239, 240, 241, 242, 243, 244, 245, 246, 247, 248, 249, 250, 251, 252, 253, 254, 255, 256, 257, 258, 259, 260, 261, 262, 263, 264, 265, 270, 271, 272, 273, 274, 275, 276, 277, 278, 279, 280, 281, 282, 283, 284, 285, 286, 287, 288, 289, 290, 291, 292, 293] (by decide +kernel) (by decide +kernel)) (goodIn_sub (fun _ h => List.mem_cons_of_mem _ (List.mem_append_left _ (List.mem_append_left _ (List.mem_append_right _ h)))) (by decide +kernel))) (goodIn_sub (fun _ h => List.mem_cons_of_mem _ (List.mem_append_left _ (List.mem_append_right _ h))) (by decide +kernel))) (goodIn_sub (fun _ h => List.mem_cons_of_mem _ (List.mem_append_right _ h)) (by decide +kernel))
set_option maxRecDepth 20000 in
theorem gL_shares_L_asks : GoodIn wsL_shares (va_wsS RL 84 yL_asks wsL_asks) := goodIn_app (goodIn_of _ (by decide +kernel)) ggL_shares_L_asks
set_option maxRecDepth 20000 in
theorem ggL_shares_L_with : GoodIn wsL_shares wsL_with := goodIn_r _ [268, 269] (by decide +kernel) (by decide +kernel)
set_option maxRecDepth 20000 in
theorem gL_shares_L_with : GoodIn wsL_shares (va_wsS RL 91 yL_with wsL_with) := goodIn_app (goodIn_of _ (by decide +kernel)) ggL_shares_L_with
theorem dL_shares_0 : decode cL_shares 0 = .ok (.iconst 0, 1) := by decide +kernel
theorem dL_shares_1 : decode cL_shares 1 = .ok (.istore 5, 2) := by decide +kernel
theorem dL_shares_3 : decode cL_shares 3 = .ok (.iconst 0, 1) := by decide +kernel
theorem dL_shares_4 : decode cL_shares 4 = .ok (.istore 6, 2) := by decide +kernel
theorem dL_shares_6 : decode cL_shares 6 = .ok (.iload 6, 2) := by decide +kernel
theorem dL_shares_8 : decode cL_shares 8 = .ok (.aload 4, 2) := by decide +kernel
theorem dL_shares_10 : decode cL_shares 10 = .ok (.iconst 1, 1) := by decide +kernel
theorem dL_shares_11 : decode cL_shares 11 = .ok (.iaload, 1) := by decide +kernel
theorem dL_shares_12 : decode cL_shares 12 = .ok (.if_icmp .ge 34, 3) := by decide +kernel
theorem dL_shares_15 : decode cL_shares 15 = .ok (.iload 5, 2) := by decide +kernel
theorem dL_shares_17 : decode cL_shares 17 = .ok (.iload 6, 2) := by decide +kernel
theorem dL_shares_19 : decode cL_shares 19 = .ok (.iload_n 1, 1) := by decide +kernel
theorem dL_shares_20 : decode cL_shares 20 = .ok (.if_icmp .ne 7, 3) := by decide +kernel
theorem dL_shares_23 : decode cL_shares 23 = .ok (.iload_n 2, 1) := by decide +kernel
theorem dL_shares_24 : decode cL_shares 24 = .ok (.goto 13, 3) := by decide +kernel
theorem dL_shares_27 : decode cL_shares 27 = .ok (.aload_n 3, 1) := by decide +kernel
theorem dL_shares_28 : decode cL_shares 28 = .ok (.iload 6, 2) := by decide +kernel
theorem dL_shares_30 : decode cL_shares 30 = .ok (.laload, 1) := by decide +kernel
theorem dL_shares_31 : decode cL_shares 31 = .ok (.iconst 5, 1) := by decide +kernel
theorem dL_shares_32 : decode cL_shares 32 = .ok (.bipush 20, 2) := by decide +kernel
theorem dL_shares_34 : decode cL_shares 34 = .ok (.invokestatic 30, 3) := by decide +kernel
theorem dL_shares_37 : decode cL_shares 37 = .ok (.iadd, 1) := by decide +kernel
theorem dL_shares_38 : decode cL_shares 38 = .ok (.istore 5, 2) := by decide +kernel
theorem dL_shares_40 : decode cL_shares 40 = .ok (.iinc 6 1, 3) := by decide +kernel
theorem dL_shares_43 : decode cL_shares 43 = .ok (.goto (-37), 3) := by decide +kernel
theorem dL_shares_46 : decode cL_shares 46 = .ok (.aload_n 3, 1) := by decide +kernel
theorem dL_shares_47 : decode cL_shares 47 = .ok (.iload_n 1, 1) := by decide +kernel
theorem dL_shares_48 : decode cL_shares 48 = .ok (.laload, 1) := by decide +kernel
theorem dL_shares_49 : decode cL_shares 49 = .ok (.iconst 5, 1) := by decide +kernel
theorem dL_shares_50 : decode cL_shares 50 = .ok (.bipush 20, 2) := by decide +kernel
theorem dL_shares_52 : decode cL_shares 52 = .ok (.invokestatic 30, 3) := by decide +kernel
theorem dL_shares_55 : decode cL_shares 55 = .ok (.istore 6, 2) := by decide +kernel
theorem dL_shares_57 : decode cL_shares 57 = .ok (.aload_n 0, 1) := by decide +kernel
theorem dL_shares_58 : decode cL_shares 58 = .ok (.iconst 2, 1) := by decide +kernel
theorem dL_shares_59 : decode cL_shares 59 = .ok (.iload_n 1, 1) := by decide +kernel
theorem dL_shares_60 : decode cL_shares 60 = .ok (.iload_n 2, 1) := by decide +kernel
theorem dL_shares_61 : decode cL_shares 61 = .ok (.invokestatic 84, 3) := by decide +kernel
theorem dL_shares_64 : decode cL_shares 64 = .ok (.istore 7, 2) := by decide +kernel
theorem dL_shares_66 : decode cL_shares 66 = .ok (.aload_n 3, 1) := by decide +kernel
theorem dL_shares_67 : decode cL_shares 67 = .ok (.iload_n 1, 1) := by decide +kernel
theorem dL_shares_68 : decode cL_shares 68 = .ok (.iload 5, 2) := by decide +kernel
theorem dL_shares_70 : decode cL_shares 70 = .ok (.ldc 90, 2) := by decide +kernel
theorem dL_shares_72 : decode cL_shares 72 = .ok (.if_icmp .le 9, 3) := by decide +kernel
theorem dL_shares_75 : decode cL_shares 75 = .ok (.aload_n 3, 1) := by decide +kernel
theorem dL_shares_76 : decode cL_shares 76 = .ok (.iload_n 1, 1) := by decide +kernel
theorem dL_shares_77 : decode cL_shares 77 = .ok (.laload, 1) := by decide +kernel
theorem dL_shares_78 : decode cL_shares 78 = .ok (.goto 13, 3) := by decide +kernel
theorem dL_shares_81 : decode cL_shares 81 = .ok (.aload_n 3, 1) := by decide +kernel
theorem dL_shares_82 : decode cL_shares 82 = .ok (.iload_n 1, 1) := by decide +kernel
theorem dL_shares_83 : decode cL_shares 83 = .ok (.laload, 1) := by decide +kernel
theorem dL_shares_84 : decode cL_shares 84 = .ok (.iconst 5, 1) := by decide +kernel
theorem dL_shares_85 : decode cL_shares 85 = .ok (.bipush 20, 2) := by decide +kernel
theorem dL_shares_87 : decode cL_shares 87 = .ok (.iload_n 2, 1) := by decide +kernel
theorem dL_shares_88 : decode cL_shares 88 = .ok (.invokestatic 91, 3) := by decide +kernel
theorem dL_shares_91 : decode cL_shares 91 = .ok (.lastore, 1) := by decide +kernel
theorem dL_shares_92 : decode cL_shares 92 = .ok (.iload 7, 2) := by decide +kernel
theorem dL_shares_94 : decode cL_shares 94 = .ok (.iload 5, 2) := by decide +kernel
theorem dL_shares_96 : decode cL_shares 96 = .ok (.ldc 90, 2) := by decide +kernel
theorem dL_shares_98 : decode cL_shares 98 = .ok (.if_icmp .le 8, 3) := by decide +kernel
theorem dL_shares_101 : decode cL_shares 101 = .ok (.bipush (-8), 2) := by decide +kernel
theorem dL_shares_103 : decode cL_shares 103 = .ok (.goto 5, 3) := by decide +kernel
theorem dL_shares_106 : decode cL_shares 106 = .ok (.iload 6, 2) := by decide +kernel
theorem dL_shares_108 : decode cL_shares 108 = .ok (.if_icmp .ne 7, 3) := by decide +kernel
theorem dL_shares_111 : decode cL_shares 111 = .ok (.iconst 1, 1) := by decide +kernel
theorem dL_shares_112 : decode cL_shares 112 = .ok (.goto 4, 3) := by decide +kernel
theorem dL_shares_115 : decode cL_shares 115 = .ok (.iconst 0, 1) := by decide +kernel
theorem dL_shares_116 : decode cL_shares 116 = .ok (.ireturn, 1) := by decide +kernel
set_option maxRecDepth 20000 in
theorem ggL_adds_X4_addHolder : GoodIn wsL_adds wsX4_addHolder := goodIn_ca (goodIn_ca (goodIn_r _ [5, 6, 7, 8, 9, 10, 11, 12, 13, 14, 15, 4, 16, 17, 18, 19, 20, 21, 22, 23, 24, 25, 26, 27, 28, 29, 30, 31, 32, 33, 34, 35, 36, 37, 38, 39, 40, 41, 42, 43, 44, 45, 46, 47, 48, 49, 50, 51, 52, 53, 54, 55, 56, 57, 58, 59, 60, 61, 62, 63, 64, 65, 66, 67, 68, 69, 70, 71, 72, 73, 74, 75, 76, 77, 78, 79, 80, 81, 82, 83, 84, 85, 86, 87, 88, 89, 90, 91, 131, 132, 133, 134, 135, 136, 137, 138, 139, 140, 141, 142, 143, 144, 145] (by decide +kernel) (by decide +kernel)) (goodIn_sub (fun _ h => List.mem_cons_of_mem _ (List.mem_append_left _ (List.mem_append_left _ (List.mem_append_right _ h)))) (by decide +kernel))) (goodIn_sub (fun _ h => List.mem_cons_of_mem _ (List.mem_append_left _ (List.mem_append_right _ h))) (by decide +kernel))
set_option maxRecDepth 20000 in
theorem gL_adds_X4_addHolder : GoodIn wsL_adds (wsV RL 95 RX4 yX4_addHolder wsX4_addHolder) := goodIn_app (goodIn_of _ (by decide +kernel)) ggL_adds_X4_addHolder
set_option maxRecDepth 20000 in
theorem ggL_adds_X4_shares : GoodIn wsL_adds wsX4_shares := goodIn_ca (goodIn_r _ [95, 96, 97, 98, 4, 99, 100, 101, 10, 102, 103, 104, 105, 106, 20, 21, 22, 23, 24, 25, 14, 15, 16, 107, 108, 109, 110, 111, 112, 113, 114, 115, 116, 117, 118, 119, 120, 121, 122, 44, 137, 138, 139, 140, 141, 142, 131, 132, 133, 134, 135, 136, 143, 144, 145] (by decide +kernel) (by decide +kernel)) (goodIn_sub (fun _ h => List.mem_cons_of_mem _ (List.mem_append_right _ h)) (by decide +kernel))
set_option maxRecDepth 20000 in
theorem gL_adds_X4_shares : GoodIn wsL_adds (wsV RL 52 RX4 yX4_shares wsX4_shares) := goodIn_app (goodIn_of _ (by decide +kernel)) ggL_adds_X4_shares
set_option maxRecDepth 20000 in
theorem ggL_adds_X4_isValid : GoodIn wsL_adds wsX4_isValid := goodIn_ca (goodIn_r _ [126, 127, 96, 97, 98, 4, 99, 100, 101, 10, 102, 103, 104, 105, 106, 20, 21, 22, 23, 24, 25, 14, 15, 16, 107, 108, 109, 110, 111, 112, 113, 114, 115, 116, 117, 118, 119, 120, 121, 122, 44, 128, 13, 129, 130, 34, 131, 132, 133, 134, 135, 136, 143, 144, 145, 137, 138, 139, 140, 141, 142] (by decide +kernel) (by decide +kernel)) (goodIn_sub (fun _ h => List.mem_cons_of_mem _ (List.mem_append_right _ h)) (by decide +kernel))
set_option maxRecDepth 20000 in
theorem gL_adds_X4_isValid : GoodIn wsL_adds (wsV RL 55 RX4 yX4_isValid wsX4_isValid) := goodIn_app (goodIn_of _ (by decide +kernel)) ggL_adds_X4_isValid
theorem dL_adds_0 : decode cL_adds 0 = .ok (.aload 4, 2) := by decide +kernel
theorem dL_adds_2 : decode cL_adds 2 = .ok (.iconst 1, 1) := by decide +kernel
theorem dL_adds_3 : decode cL_adds 3 = .ok (.iaload, 1) := by decide +kernel
theorem dL_adds_4 : decode cL_adds 4 = .ok (.bipush 20, 2) := by decide +kernel
theorem dL_adds_6 : decode cL_adds 6 = .ok (.if_icmp .ne 5, 3) := by decide +kernel
theorem dL_adds_9 : decode cL_adds 9 = .ok (.iconst 1, 1) := by decide +kernel
theorem dL_adds_10 : decode cL_adds 10 = .ok (.ireturn, 1) := by decide +kernel
theorem dL_adds_11 : decode cL_adds 11 = .ok (.iload_n 1, 1) := by decide +kernel
theorem dL_adds_12 : decode cL_adds 12 = .ok (.iconst 5, 1) := by decide +kernel
theorem dL_adds_13 : decode cL_adds 13 = .ok (.irem, 1) := by decide +kernel
theorem dL_adds_14 : decode cL_adds 14 = .ok (.ifCond .ne 7, 3) := by decide +kernel
theorem dL_adds_17 : decode cL_adds 17 = .ok (.iconst 2, 1) := by decide +kernel
theorem dL_adds_18 : decode cL_adds 18 = .ok (.goto 15, 3) := by decide +kernel
theorem dL_adds_21 : decode cL_adds 21 = .ok (.iload_n 1, 1) := by decide +kernel
theorem dL_adds_22 : decode cL_adds 22 = .ok (.iconst 5, 1) := by decide +kernel
theorem dL_adds_23 : decode cL_adds 23 = .ok (.irem, 1) := by decide +kernel
theorem dL_adds_24 : decode cL_adds 24 = .ok (.iconst 3, 1) := by decide +kernel
theorem dL_adds_25 : decode cL_adds 25 = .ok (.if_icmp .ge 7, 3) := by decide +kernel
theorem dL_adds_28 : decode cL_adds 28 = .ok (.iconst 1, 1) := by decide +kernel
theorem dL_adds_29 : decode cL_adds 29 = .ok (.goto 4, 3) := by decide +kernel
theorem dL_adds_32 : decode cL_adds 32 = .ok (.iconst 0, 1) := by decide +kernel
theorem dL_adds_33 : decode cL_adds 33 = .ok (.istore 5, 2) := by decide +kernel
theorem dL_adds_35 : decode cL_adds 35 = .ok (.iload 5, 2) := by decide +kernel
theorem dL_adds_37 : decode cL_adds 37 = .ok (.iconst 2, 1) := by decide +kernel
theorem dL_adds_38 : decode cL_adds 38 = .ok (.if_icmp .ne 7, 3) := by decide +kernel
theorem dL_adds_41 : decode cL_adds 41 = .ok (.iconst (-1), 1) := by decide +kernel
theorem dL_adds_42 : decode cL_adds 42 = .ok (.goto 7, 3) := by decide +kernel
theorem dL_adds_45 : decode cL_adds 45 = .ok (.iload_n 2, 1) := by decide +kernel
theorem dL_adds_46 : decode cL_adds 46 = .ok (.bipush 6, 2) := by decide +kernel
theorem dL_adds_48 : decode cL_adds 48 = .ok (.irem, 1) := by decide +kernel
theorem dL_adds_49 : decode cL_adds 49 = .ok (.istore 6, 2) := by decide +kernel
theorem dL_adds_51 : decode cL_adds 51 = .ok (.aload_n 3, 1) := by decide +kernel
theorem dL_adds_52 : decode cL_adds 52 = .ok (.aload 4, 2) := by decide +kernel
theorem dL_adds_54 : decode cL_adds 54 = .ok (.iconst 1, 1) := by decide +kernel
theorem dL_adds_55 : decode cL_adds 55 = .ok (.iaload, 1) := by decide +kernel
theorem dL_adds_56 : decode cL_adds 56 = .ok (.iload 5, 2) := by decide +kernel
theorem dL_adds_58 : decode cL_adds 58 = .ok (.i2l, 1) := by decide +kernel
theorem dL_adds_59 : decode cL_adds 59 = .ok (.iload 6, 2) := by decide +kernel
theorem dL_adds_61 : decode cL_adds 61 = .ok (.iconst 1, 1) := by decide +kernel
theorem dL_adds_62 : decode cL_adds 62 = .ok (.iadd, 1) := by decide +kernel
theorem dL_adds_63 : decode cL_adds 63 = .ok (.i2l, 1) := by decide +kernel
theorem dL_adds_64 : decode cL_adds 64 = .ok (.iconst 2, 1) := by decide +kernel
theorem dL_adds_65 : decode cL_adds 65 = .ok (.lshl, 1) := by decide +kernel
theorem dL_adds_66 : decode cL_adds 66 = .ok (.lor, 1) := by decide +kernel
theorem dL_adds_67 : decode cL_adds 67 = .ok (.lastore, 1) := by decide +kernel
theorem dL_adds_68 : decode cL_adds 68 = .ok (.aload 4, 2) := by decide +kernel
theorem dL_adds_70 : decode cL_adds 70 = .ok (.iconst 1, 1) := by decide +kernel
theorem dL_adds_71 : decode cL_adds 71 = .ok (.dup2, 1) := by decide +kernel
theorem dL_adds_72 : decode cL_adds 72 = .ok (.iaload, 1) := by decide +kernel
theorem dL_adds_73 : decode cL_adds 73 = .ok (.iconst 1, 1) := by decide +kernel
theorem dL_adds_74 : decode cL_adds 74 = .ok (.iadd, 1) := by decide +kernel
theorem dL_adds_75 : decode cL_adds 75 = .ok (.iastore, 1) := by decide +kernel
theorem dL_adds_76 : decode cL_adds 76 = .ok (.aload_n 0, 1) := by decide +kernel
theorem dL_adds_77 : decode cL_adds 77 = .ok (.iload 5, 2) := by decide +kernel
theorem dL_adds_79 : decode cL_adds 79 = .ok (.iload 6, 2) := by decide +kernel
theorem dL_adds_81 : decode cL_adds 81 = .ok (.invokevirtual 95, 3) := by decide +kernel
theorem dL_adds_84 : decode cL_adds 84 = .ok (.aload 4, 2) := by decide +kernel
theorem dL_adds_86 : decode cL_adds 86 = .ok (.iconst 1, 1) := by decide +kernel
theorem dL_adds_87 : decode cL_adds 87 = .ok (.iaload, 1) := by decide +kernel
theorem dL_adds_88 : decode cL_adds 88 = .ok (.iconst 1, 1) := by decide +kernel
theorem dL_adds_89 : decode cL_adds 89 = .ok (.isub, 1) := by decide +kernel
theorem dL_adds_90 : decode cL_adds 90 = .ok (.if_icmp .ne 33, 3) := by decide +kernel
theorem dL_adds_93 : decode cL_adds 93 = .ok (.aload_n 0, 1) := by decide +kernel
theorem dL_adds_94 : decode cL_adds 94 = .ok (.aload 4, 2) := by decide +kernel
theorem dL_adds_96 : decode cL_adds 96 = .ok (.iconst 1, 1) := by decide +kernel
theorem dL_adds_97 : decode cL_adds 97 = .ok (.iaload, 1) := by decide +kernel
theorem dL_adds_98 : decode cL_adds 98 = .ok (.iconst 1, 1) := by decide +kernel
theorem dL_adds_99 : decode cL_adds 99 = .ok (.isub, 1) := by decide +kernel
theorem dL_adds_100 : decode cL_adds 100 = .ok (.invokevirtual 52, 3) := by decide +kernel
theorem dL_adds_103 : decode cL_adds 103 = .ok (.ifCond .ne 20, 3) := by decide +kernel
theorem dL_adds_106 : decode cL_adds 106 = .ok (.aload_n 0, 1) := by decide +kernel
theorem dL_adds_107 : decode cL_adds 107 = .ok (.aload 4, 2) := by decide +kernel
theorem dL_adds_109 : decode cL_adds 109 = .ok (.iconst 1, 1) := by decide +kernel
theorem dL_adds_110 : decode cL_adds 110 = .ok (.iaload, 1) := by decide +kernel
theorem dL_adds_111 : decode cL_adds 111 = .ok (.iconst 1, 1) := by decide +kernel
theorem dL_adds_112 : decode cL_adds 112 = .ok (.isub, 1) := by decide +kernel
theorem dL_adds_113 : decode cL_adds 113 = .ok (.invokevirtual 55, 3) := by decide +kernel
theorem dL_adds_116 : decode cL_adds 116 = .ok (.ifCond .ne 7, 3) := by decide +kernel
theorem dL_adds_119 : decode cL_adds 119 = .ok (.iconst 1, 1) := by decide +kernel
theorem dL_adds_120 : decode cL_adds 120 = .ok (.goto 4, 3) := by decide +kernel
theorem dL_adds_123 : decode cL_adds 123 = .ok (.iconst 0, 1) := by decide +kernel
theorem dL_adds_124 : decode cL_adds 124 = .ok (.ireturn, 1) := by decide +kernel
set_option maxRecDepth 20000 in
theorem ggL_passes_L_part : GoodIn wsL_passes wsL_part := goodIn_r _ [5] (by decide +kernel) (by decide +kernel)
set_option maxRecDepth 20000 in
theorem gL_passes_L_part : GoodIn wsL_passes (va_wsS RL 30 yL_part wsL_part) := goodIn_app (goodIn_of _ (by decide +kernel)) ggL_passes_L_part
set_option maxRecDepth 20000 in
theorem ggL_passes_L_with : GoodIn wsL_passes wsL_with := goodIn_r _ [8, 9] (by decide +kernel) (by decide +kernel)
set_option maxRecDepth 20000 in
theorem gL_passes_L_with : GoodIn wsL_passes (va_wsS RL 91 yL_with wsL_with) := goodIn_app (goodIn_of _ (by decide +kernel)) ggL_passes_L_with
set_option maxRecDepth 20000 in
theorem ggL_passes_X4_pass : GoodIn wsL_passes wsX4_pass := goodIn_ca (goodIn_ca (goodIn_r _ [14, 15, 16, 17, 18, 19, 20, 21, 22, 23, 13, 24, 25, 26, 27, 28, 29, 30, 31, 32, 33, 34, 35, 36, 37, 38, 39, 40, 41, 42, 43, 44, 45, 46, 47, 48, 49, 50, 51, 52, 53, 54, 55, 56, 57, 58, 59, 60, 61, 62, 63, 64, 65, 66, 67, 68, 69] (by decide +kernel) (by decide +kernel)) (goodIn_sub (fun _ h => List.mem_cons_of_mem _ (List.mem_append_left _ (List.mem_append_right _ h))) (by decide +kernel))) (goodIn_sub (fun _ h => List.mem_cons_of_mem _ (List.mem_append_right _ h)) (by decide +kernel))
set_option maxRecDepth 20000 in
theorem gL_passes_X4_pass : GoodIn wsL_passes (wsV RL 98 RX4 yX4_pass wsX4_pass) := goodIn_app (goodIn_of _ (by decide +kernel)) ggL_passes_X4_pass
theorem dL_passes_0 : decode cL_passes 0 = .ok (.iconst 0, 1) := by decide +kernel
theorem dL_passes_1 : decode cL_passes 1 = .ok (.istore 4, 2) := by decide +kernel
theorem dL_passes_3 : decode cL_passes 3 = .ok (.iload 4, 2) := by decide +kernel
theorem dL_passes_5 : decode cL_passes 5 = .ok (.aload_n 3, 1) := by decide +kernel
theorem dL_passes_6 : decode cL_passes 6 = .ok (.iconst 1, 1) := by decide +kernel
theorem dL_passes_7 : decode cL_passes 7 = .ok (.iaload, 1) := by decide +kernel
theorem dL_passes_8 : decode cL_passes 8 = .ok (.if_icmp .ge 71, 3) := by decide +kernel
theorem dL_passes_11 : decode cL_passes 11 = .ok (.aload_n 2, 1) := by decide +kernel
theorem dL_passes_12 : decode cL_passes 12 = .ok (.iload 4, 2) := by decide +kernel
theorem dL_passes_14 : decode cL_passes 14 = .ok (.laload, 1) := by decide +kernel
theorem dL_passes_15 : decode cL_passes 15 = .ok (.bipush 40, 2) := by decide +kernel
theorem dL_passes_17 : decode cL_passes 17 = .ok (.bipush 15, 2) := by decide +kernel
theorem dL_passes_19 : decode cL_passes 19 = .ok (.invokestatic 30, 3) := by decide +kernel
theorem dL_passes_22 : decode cL_passes 22 = .ok (.istore 5, 2) := by decide +kernel
theorem dL_passes_24 : decode cL_passes 24 = .ok (.aload_n 2, 1) := by decide +kernel
theorem dL_passes_25 : decode cL_passes 25 = .ok (.iload 4, 2) := by decide +kernel
theorem dL_passes_27 : decode cL_passes 27 = .ok (.aload_n 2, 1) := by decide +kernel
theorem dL_passes_28 : decode cL_passes 28 = .ok (.iload 4, 2) := by decide +kernel
theorem dL_passes_30 : decode cL_passes 30 = .ok (.laload, 1) := by decide +kernel
theorem dL_passes_31 : decode cL_passes 31 = .ok (.bipush 40, 2) := by decide +kernel
theorem dL_passes_33 : decode cL_passes 33 = .ok (.bipush 15, 2) := by decide +kernel
theorem dL_passes_35 : decode cL_passes 35 = .ok (.aload_n 2, 1) := by decide +kernel
theorem dL_passes_36 : decode cL_passes 36 = .ok (.iload 4, 2) := by decide +kernel
theorem dL_passes_38 : decode cL_passes 38 = .ok (.laload, 1) := by decide +kernel
theorem dL_passes_39 : decode cL_passes 39 = .ok (.iconst 5, 1) := by decide +kernel
theorem dL_passes_40 : decode cL_passes 40 = .ok (.bipush 20, 2) := by decide +kernel
theorem dL_passes_42 : decode cL_passes 42 = .ok (.invokestatic 30, 3) := by decide +kernel
theorem dL_passes_45 : decode cL_passes 45 = .ok (.ldc 36, 2) := by decide +kernel
theorem dL_passes_47 : decode cL_passes 47 = .ok (.if_icmp .ge 7, 3) := by decide +kernel
theorem dL_passes_50 : decode cL_passes 50 = .ok (.iconst 0, 1) := by decide +kernel
theorem dL_passes_51 : decode cL_passes 51 = .ok (.goto 18, 3) := by decide +kernel
theorem dL_passes_54 : decode cL_passes 54 = .ok (.iload 5, 2) := by decide +kernel
theorem dL_passes_56 : decode cL_passes 56 = .ok (.ifCond .ne 11, 3) := by decide +kernel
theorem dL_passes_59 : decode cL_passes 59 = .ok (.aload_n 3, 1) := by decide +kernel
theorem dL_passes_60 : decode cL_passes 60 = .ok (.iconst 0, 1) := by decide +kernel
theorem dL_passes_61 : decode cL_passes 61 = .ok (.iaload, 1) := by decide +kernel
theorem dL_passes_62 : decode cL_passes 62 = .ok (.iconst 1, 1) := by decide +kernel
theorem dL_passes_63 : decode cL_passes 63 = .ok (.iadd, 1) := by decide +kernel
theorem dL_passes_64 : decode cL_passes 64 = .ok (.goto 5, 3) := by decide +kernel
theorem dL_passes_67 : decode cL_passes 67 = .ok (.iload 5, 2) := by decide +kernel
theorem dL_passes_69 : decode cL_passes 69 = .ok (.invokestatic 91, 3) := by decide +kernel
theorem dL_passes_72 : decode cL_passes 72 = .ok (.lastore, 1) := by decide +kernel
theorem dL_passes_73 : decode cL_passes 73 = .ok (.iinc 4 1, 3) := by decide +kernel
theorem dL_passes_76 : decode cL_passes 76 = .ok (.goto (-73), 3) := by decide +kernel
theorem dL_passes_79 : decode cL_passes 79 = .ok (.aload_n 3, 1) := by decide +kernel
theorem dL_passes_80 : decode cL_passes 80 = .ok (.iconst 0, 1) := by decide +kernel
theorem dL_passes_81 : decode cL_passes 81 = .ok (.dup2, 1) := by decide +kernel
theorem dL_passes_82 : decode cL_passes 82 = .ok (.iaload, 1) := by decide +kernel
theorem dL_passes_83 : decode cL_passes 83 = .ok (.iload_n 1, 1) := by decide +kernel
theorem dL_passes_84 : decode cL_passes 84 = .ok (.iadd, 1) := by decide +kernel
theorem dL_passes_85 : decode cL_passes 85 = .ok (.iastore, 1) := by decide +kernel
theorem dL_passes_86 : decode cL_passes 86 = .ok (.aload_n 0, 1) := by decide +kernel
theorem dL_passes_87 : decode cL_passes 87 = .ok (.iload_n 1, 1) := by decide +kernel
theorem dL_passes_88 : decode cL_passes 88 = .ok (.invokevirtual 98, 3) := by decide +kernel
theorem dL_passes_91 : decode cL_passes 91 = .ok (.aload_n 3, 1) := by decide +kernel
theorem dL_passes_92 : decode cL_passes 92 = .ok (.iconst 0, 1) := by decide +kernel
theorem dL_passes_93 : decode cL_passes 93 = .ok (.iaload, 1) := by decide +kernel
theorem dL_passes_94 : decode cL_passes 94 = .ok (.if_icmp .ne 7, 3) := by decide +kernel
theorem dL_passes_97 : decode cL_passes 97 = .ok (.iconst 1, 1) := by decide +kernel
theorem dL_passes_98 : decode cL_passes 98 = .ok (.goto 4, 3) := by decide +kernel
theorem dL_passes_101 : decode cL_passes 101 = .ok (.iconst 0, 1) := by decide +kernel
theorem dL_passes_102 : decode cL_passes 102 = .ok (.ireturn, 1) := by decide +kernel
set_option maxRecDepth 20000 in
theorem ggL_parts_L_part : GoodIn wsL_parts wsL_part := goodIn_r _ [4] (by decide +kernel) (by decide +kernel)
set_option maxRecDepth 20000 in
theorem gL_parts_L_part : GoodIn wsL_parts (va_wsS RL 30 yL_part wsL_part) := goodIn_app (goodIn_of _ (by decide +kernel)) ggL_parts_L_part
set_option maxRecDepth 20000 in
theorem ggL_parts_X4_due : GoodIn wsL_parts wsX4_due := goodIn_ca (goodIn_r _ [9, 10, 11, 12, 8, 13, 14, 15, 16, 17, 18, 19, 20, 21, 22, 23, 24, 25, 26, 27, 28, 29, 30, 31, 32, 33, 34, 35, 36, 37, 38, 39, 40, 41, 42, 43, 44, 45, 46, 47, 48, 49, 50, 51, 52, 53, 54, 55, 56, 57, 58, 59, 60, 61, 62, 63, 64, 65, 66, 67, 68, 69, 70, 71, 72, 73, 93, 94, 95, 96, 97, 98, 99, 100, 101, 102, 103, 104, 105, 106, 107, 108, 109, 110] (by decide +kernel) (by decide +kernel)) (goodIn_sub (fun _ h => List.mem_cons_of_mem _ (List.mem_append_left _ (List.mem_append_right _ h))) (by decide +kernel))
set_option maxRecDepth 20000 in
theorem gL_parts_X4_due : GoodIn wsL_parts (wsV RL 71 RX4 yX4_due wsX4_due) := goodIn_app (goodIn_of _ (by decide +kernel)) ggL_parts_X4_due
set_option maxRecDepth 20000 in
theorem ggL_parts_X4_setParts : GoodIn wsL_parts wsX4_setParts := goodIn_ca (goodIn_ca (goodIn_r _ [77, 78, 79, 80, 81, 82, 8, 83, 14, 15, 52, 84, 48, 49, 50, 51, 22, 23, 24, 25, 26, 27, 28, 29, 30, 31, 32, 33, 34, 35, 36, 37, 38, 39, 40, 41, 42, 43, 44, 45, 46, 47, 85, 86, 87, 88, 89, 90, 91, 92, 111, 112, 113, 114, 115, 116, 93, 94, 95, 96, 97, 98, 99, 100, 101] (by decide +kernel) (by decide +kernel)) (goodIn_sub (fun _ h => List.mem_cons_of_mem _ (List.mem_append_right _ h)) (by decide +kernel))) (goodIn_sub (fun _ h => List.mem_cons_of_mem _ (List.mem_append_left _ (List.mem_append_right _ h))) (by decide +kernel))
set_option maxRecDepth 20000 in
theorem gL_parts_X4_setParts : GoodIn wsL_parts (wsV RL 101 RX4 yX4_setParts wsX4_setParts) := goodIn_app (goodIn_of _ (by decide +kernel)) ggL_parts_X4_setParts
theorem dL_parts_0 : decode cL_parts 0 = .ok (.iconst (-1), 1) := by decide +kernel
theorem dL_parts_1 : decode cL_parts 1 = .ok (.istore 5, 2) := by decide +kernel
theorem dL_parts_3 : decode cL_parts 3 = .ok (.iconst (-1), 1) := by decide +kernel
theorem dL_parts_4 : decode cL_parts 4 = .ok (.istore 6, 2) := by decide +kernel
theorem dL_parts_6 : decode cL_parts 6 = .ok (.iconst 0, 1) := by decide +kernel
theorem dL_parts_7 : decode cL_parts 7 = .ok (.istore 7, 2) := by decide +kernel
theorem dL_parts_9 : decode cL_parts 9 = .ok (.iload 7, 2) := by decide +kernel
theorem dL_parts_11 : decode cL_parts 11 = .ok (.aload 4, 2) := by decide +kernel
theorem dL_parts_13 : decode cL_parts 13 = .ok (.iconst 1, 1) := by decide +kernel
theorem dL_parts_14 : decode cL_parts 14 = .ok (.iaload, 1) := by decide +kernel
theorem dL_parts_15 : decode cL_parts 15 = .ok (.if_icmp .ge 64, 3) := by decide +kernel
theorem dL_parts_18 : decode cL_parts 18 = .ok (.iload_n 1, 1) := by decide +kernel
theorem dL_parts_19 : decode cL_parts 19 = .ok (.iload 7, 2) := by decide +kernel
theorem dL_parts_21 : decode cL_parts 21 = .ok (.iadd, 1) := by decide +kernel
theorem dL_parts_22 : decode cL_parts 22 = .ok (.aload 4, 2) := by decide +kernel
theorem dL_parts_24 : decode cL_parts 24 = .ok (.iconst 1, 1) := by decide +kernel
theorem dL_parts_25 : decode cL_parts 25 = .ok (.iaload, 1) := by decide +kernel
theorem dL_parts_26 : decode cL_parts 26 = .ok (.irem, 1) := by decide +kernel
theorem dL_parts_27 : decode cL_parts 27 = .ok (.istore 8, 2) := by decide +kernel
theorem dL_parts_29 : decode cL_parts 29 = .ok (.aload_n 3, 1) := by decide +kernel
theorem dL_parts_30 : decode cL_parts 30 = .ok (.iload 8, 2) := by decide +kernel
theorem dL_parts_32 : decode cL_parts 32 = .ok (.laload, 1) := by decide +kernel
theorem dL_parts_33 : decode cL_parts 33 = .ok (.iconst 0, 1) := by decide +kernel
theorem dL_parts_34 : decode cL_parts 34 = .ok (.iconst 2, 1) := by decide +kernel
theorem dL_parts_35 : decode cL_parts 35 = .ok (.invokestatic 30, 3) := by decide +kernel
theorem dL_parts_38 : decode cL_parts 38 = .ok (.iconst 2, 1) := by decide +kernel
theorem dL_parts_39 : decode cL_parts 39 = .ok (.if_icmp .ne 8, 3) := by decide +kernel
theorem dL_parts_42 : decode cL_parts 42 = .ok (.iload 8, 2) := by decide +kernel
theorem dL_parts_44 : decode cL_parts 44 = .ok (.goto 5, 3) := by decide +kernel
theorem dL_parts_47 : decode cL_parts 47 = .ok (.iload 5, 2) := by decide +kernel
theorem dL_parts_49 : decode cL_parts 49 = .ok (.istore 5, 2) := by decide +kernel
theorem dL_parts_51 : decode cL_parts 51 = .ok (.aload_n 3, 1) := by decide +kernel
theorem dL_parts_52 : decode cL_parts 52 = .ok (.iload 8, 2) := by decide +kernel
theorem dL_parts_54 : decode cL_parts 54 = .ok (.laload, 1) := by decide +kernel
theorem dL_parts_55 : decode cL_parts 55 = .ok (.iconst 0, 1) := by decide +kernel
theorem dL_parts_56 : decode cL_parts 56 = .ok (.iconst 2, 1) := by decide +kernel
theorem dL_parts_57 : decode cL_parts 57 = .ok (.invokestatic 30, 3) := by decide +kernel
theorem dL_parts_60 : decode cL_parts 60 = .ok (.iconst 2, 1) := by decide +kernel
theorem dL_parts_61 : decode cL_parts 61 = .ok (.if_icmp .ge 8, 3) := by decide +kernel
theorem dL_parts_64 : decode cL_parts 64 = .ok (.iload 8, 2) := by decide +kernel
theorem dL_parts_66 : decode cL_parts 66 = .ok (.goto 5, 3) := by decide +kernel
theorem dL_parts_69 : decode cL_parts 69 = .ok (.iload 6, 2) := by decide +kernel
theorem dL_parts_71 : decode cL_parts 71 = .ok (.istore 6, 2) := by decide +kernel
theorem dL_parts_73 : decode cL_parts 73 = .ok (.iinc 7 1, 3) := by decide +kernel
theorem dL_parts_76 : decode cL_parts 76 = .ok (.goto (-67), 3) := by decide +kernel
theorem dL_parts_79 : decode cL_parts 79 = .ok (.iload 5, 2) := by decide +kernel
theorem dL_parts_81 : decode cL_parts 81 = .ok (.ifCond .lt 8, 3) := by decide +kernel
theorem dL_parts_84 : decode cL_parts 84 = .ok (.iload 6, 2) := by decide +kernel
theorem dL_parts_86 : decode cL_parts 86 = .ok (.ifCond .ge 5, 3) := by decide +kernel
theorem dL_parts_89 : decode cL_parts 89 = .ok (.iconst 1, 1) := by decide +kernel
theorem dL_parts_90 : decode cL_parts 90 = .ok (.ireturn, 1) := by decide +kernel
theorem dL_parts_91 : decode cL_parts 91 = .ok (.iload_n 2, 1) := by decide +kernel
theorem dL_parts_92 : decode cL_parts 92 = .ok (.iconst 3, 1) := by decide +kernel
theorem dL_parts_93 : decode cL_parts 93 = .ok (.irem, 1) := by decide +kernel
theorem dL_parts_94 : decode cL_parts 94 = .ok (.ifCond .ne 7, 3) := by decide +kernel
theorem dL_parts_97 : decode cL_parts 97 = .ok (.iconst 0, 1) := by decide +kernel
theorem dL_parts_98 : decode cL_parts 98 = .ok (.goto 9, 3) := by decide +kernel
theorem dL_parts_101 : decode cL_parts 101 = .ok (.iload_n 2, 1) := by decide +kernel
theorem dL_parts_102 : decode cL_parts 102 = .ok (.iconst 3, 1) := by decide +kernel
theorem dL_parts_103 : decode cL_parts 103 = .ok (.idiv, 1) := by decide +kernel
theorem dL_parts_104 : decode cL_parts 104 = .ok (.bipush 101, 2) := by decide +kernel
theorem dL_parts_106 : decode cL_parts 106 = .ok (.irem, 1) := by decide +kernel
theorem dL_parts_107 : decode cL_parts 107 = .ok (.istore 7, 2) := by decide +kernel
theorem dL_parts_109 : decode cL_parts 109 = .ok (.aload 4, 2) := by decide +kernel
theorem dL_parts_111 : decode cL_parts 111 = .ok (.iconst 2, 1) := by decide +kernel
theorem dL_parts_112 : decode cL_parts 112 = .ok (.iaload, 1) := by decide +kernel
theorem dL_parts_113 : decode cL_parts 113 = .ok (.ifCond .ne 7, 3) := by decide +kernel
theorem dL_parts_116 : decode cL_parts 116 = .ok (.iconst 0, 1) := by decide +kernel
theorem dL_parts_117 : decode cL_parts 117 = .ok (.goto 15, 3) := by decide +kernel
theorem dL_parts_120 : decode cL_parts 120 = .ok (.aload_n 0, 1) := by decide +kernel
theorem dL_parts_121 : decode cL_parts 121 = .ok (.aload 4, 2) := by decide +kernel
theorem dL_parts_123 : decode cL_parts 123 = .ok (.iconst 2, 1) := by decide +kernel
theorem dL_parts_124 : decode cL_parts 124 = .ok (.iaload, 1) := by decide +kernel
theorem dL_parts_125 : decode cL_parts 125 = .ok (.iconst 1, 1) := by decide +kernel
theorem dL_parts_126 : decode cL_parts 126 = .ok (.isub, 1) := by decide +kernel
theorem dL_parts_127 : decode cL_parts 127 = .ok (.iload 5, 2) := by decide +kernel
theorem dL_parts_129 : decode cL_parts 129 = .ok (.invokevirtual 71, 3) := by decide +kernel
theorem dL_parts_132 : decode cL_parts 132 = .ok (.istore 8, 2) := by decide +kernel
theorem dL_parts_134 : decode cL_parts 134 = .ok (.aload_n 0, 1) := by decide +kernel
theorem dL_parts_135 : decode cL_parts 135 = .ok (.iload 5, 2) := by decide +kernel
theorem dL_parts_137 : decode cL_parts 137 = .ok (.iload 6, 2) := by decide +kernel
theorem dL_parts_139 : decode cL_parts 139 = .ok (.iload 7, 2) := by decide +kernel
theorem dL_parts_141 : decode cL_parts 141 = .ok (.invokevirtual 101, 3) := by decide +kernel
theorem dL_parts_144 : decode cL_parts 144 = .ok (.istore 9, 2) := by decide +kernel
theorem dL_parts_146 : decode cL_parts 146 = .ok (.iload 9, 2) := by decide +kernel
theorem dL_parts_148 : decode cL_parts 148 = .ok (.ifCond .lt 53, 3) := by decide +kernel
theorem dL_parts_151 : decode cL_parts 151 = .ok (.iload 9, 2) := by decide +kernel
theorem dL_parts_153 : decode cL_parts 153 = .ok (.bipush 100, 2) := by decide +kernel
theorem dL_parts_155 : decode cL_parts 155 = .ok (.if_icmp .gt 46, 3) := by decide +kernel
theorem dL_parts_158 : decode cL_parts 158 = .ok (.aload_n 0, 1) := by decide +kernel
theorem dL_parts_159 : decode cL_parts 159 = .ok (.iload 5, 2) := by decide +kernel
theorem dL_parts_161 : decode cL_parts 161 = .ok (.iload 6, 2) := by decide +kernel
theorem dL_parts_163 : decode cL_parts 163 = .ok (.iload 7, 2) := by decide +kernel
theorem dL_parts_165 : decode cL_parts 165 = .ok (.invokevirtual 101, 3) := by decide +kernel
theorem dL_parts_168 : decode cL_parts 168 = .ok (.iload 7, 2) := by decide +kernel
theorem dL_parts_170 : decode cL_parts 170 = .ok (.if_icmp .ne 31, 3) := by decide +kernel
theorem dL_parts_173 : decode cL_parts 173 = .ok (.aload 4, 2) := by decide +kernel
theorem dL_parts_175 : decode cL_parts 175 = .ok (.iconst 2, 1) := by decide +kernel
theorem dL_parts_176 : decode cL_parts 176 = .ok (.iaload, 1) := by decide +kernel
theorem dL_parts_177 : decode cL_parts 177 = .ok (.ifCond .eq 20, 3) := by decide +kernel
theorem dL_parts_180 : decode cL_parts 180 = .ok (.aload_n 0, 1) := by decide +kernel
theorem dL_parts_181 : decode cL_parts 181 = .ok (.aload 4, 2) := by decide +kernel
theorem dL_parts_183 : decode cL_parts 183 = .ok (.iconst 2, 1) := by decide +kernel
theorem dL_parts_184 : decode cL_parts 184 = .ok (.iaload, 1) := by decide +kernel
theorem dL_parts_185 : decode cL_parts 185 = .ok (.iconst 1, 1) := by decide +kernel
theorem dL_parts_186 : decode cL_parts 186 = .ok (.isub, 1) := by decide +kernel
theorem dL_parts_187 : decode cL_parts 187 = .ok (.iload 5, 2) := by decide +kernel
theorem dL_parts_189 : decode cL_parts 189 = .ok (.invokevirtual 71, 3) := by decide +kernel
theorem dL_parts_192 : decode cL_parts 192 = .ok (.iload 8, 2) := by decide +kernel
theorem dL_parts_194 : decode cL_parts 194 = .ok (.if_icmp .ne 7, 3) := by decide +kernel
theorem dL_parts_197 : decode cL_parts 197 = .ok (.iconst 1, 1) := by decide +kernel
theorem dL_parts_198 : decode cL_parts 198 = .ok (.goto 4, 3) := by decide +kernel
theorem dL_parts_201 : decode cL_parts 201 = .ok (.iconst 0, 1) := by decide +kernel
theorem dL_parts_202 : decode cL_parts 202 = .ok (.ireturn, 1) := by decide +kernel
set_option maxRecDepth 20000 in
theorem ggL_step_L_adds : GoodIn wsL_step wsL_adds := goodIn_ca (goodIn_ca (goodIn_ca (goodIn_r _ [6, 7, 8, 9, 10, 11, 12, 13, 14, 15, 16, 17, 18, 19, 20, 21, 22, 23, 24, 25, 26, 27, 28, 29, 30, 31, 32, 33, 34, 35, 36, 37, 38, 39, 40, 41, 42, 43, 44, 45, 46, 47, 48, 49, 50, 51, 52, 53, 54, 55, 56, 57, 58, 59, 60, 61, 62, 63, 64, 65, 66, 67, 68, 69, 70, 71, 72, 73, 74, 75, 76, 77, 78, 79, 80, 81, 82, 83, 84, 85, 86, 87, 88, 89, 90, 91, 92, 93, 94, 95, 96, 97, 98, 99, 100, 101, 102, 103, 104, 105, 106, 107, 108, 109, 110, 111, 112, 113, 114, 115, 116, 117, 118, 119, 120, 121, 122, 123, 124, 125, 126, 127, 128, 129, 130, 131, 132, 133, 134, 135, 136, 352, 353, 354, 355, 356, 357, 358, 359, 360, 361, 362, 363, 364, 365, 366] (by decide +kernel) (by decide +kernel)) (goodIn_sub (fun _ h => List.mem_cons_of_mem _ (List.mem_append_left _ (List.mem_append_left _ (List.mem_append_right _ h)))) (by decide +kernel))) (goodIn_sub (fun _ h => List.mem_cons_of_mem _ (List.mem_append_left _ (List.mem_append_right _ h))) (by decide +kernel))) (goodIn_sub (fun _ h => List.mem_cons_of_mem _ (List.mem_append_right _ h)) (by decide +kernel))
set_option maxRecDepth 20000 in
theorem gL_step_L_adds : GoodIn wsL_step (va_wsS RL 105 yL_adds wsL_adds) := goodIn_app (goodIn_of _ (by decide +kernel)) ggL_step_L_adds
set_option maxRecDepth 20000 in
theorem ggL_step_L_shares : GoodIn wsL_step wsL_shares := goodIn_ca (goodIn_ca (goodIn_ca (goodIn_r _ [139, 140, 141, 142, 5, 143, 144, 145, 146, 147, 148, 149, 150, 10, 151, 152, 153, 154, 155, 14, 15, 133, 156, 157, 158, 159, 106, 107, 160, 161, 162, 163, 164, 165, 26, 27, 28, 29, 30, 31, 20, 21, 22, 113, 114, 115, 116, 117, 118, 119, 120, 121, 122, 123, 124, 125, 126, 127, 128, 50, 109, 110, 111, 112, 16, 166, 167, 168, 169, 170, 171, 172, 173, 174, 108, 134, 19, 135, 136, 40, 175, 176, 177, 178, 179, 180, 181, 182, 183, 184, 185, 186, 187, 188, 189, 190, 191, 192, 193, 194, 195, 196, 197, 198, 199, 200, 201, 202, 203, 65, 66, 67, 204, 205, 206, 207, 102, 103, 104, 105, 208, 209, 210, 211, 12, 13, 212, 213, 214, 215, 216, 217, 218, 219, 220, 221, 222, 223, 224, 225, 35, 36, 226, 227, 228, 229, 230, 231, 232, 233, 234, 235, 236, 237, 238, 239, 240, 241, 242, 243, 244, 245, 63, 246, 247, 248, 249, 250, 251, 252, 253, 254, 255, 256, 257, 258, 259, 260, 261, 262, 263, 38, 264, 265, 266, 267, 268, 269, 270, 45, 46, 47, 48, 49, 51, 52, 53, 54, 55, 56, 57, 58, 59, 60, 61, 62, 64, 68, 69, 70, 71, 72, 73, 74, 75, 76, 77, 78, 79, 80, 81, 82, 83, 84, 85, 86, 87, 88, 89, 90, 91, 92, 93, 94, 95, 96, 97, 271, 272, 273, 274, 275, 276, 277, 278, 279, 23, 24, 25, 280, 281, 282, 283, 284, 285, 286, 287, 288, 42, 39, 289, 41, 290, 291, 292, 44, 293, 294, 295, 296, 367, 368, 369, 352, 353, 354, 355, 356, 357, 364, 365, 366, 358, 359, 360, 361, 362, 363, 370, 371, 372, 373, 374, 375] (by decide +kernel) (by decide +kernel)) (goodIn_sub (fun _ h => List.mem_cons_of_mem _ (List.mem_append_left _ (List.mem_append_right _ h))) (by decide +kernel))) (goodIn_sub (fun _ h => List.mem_cons_of_mem _ (List.mem_append_right _ h)) (by decide +kernel))) (goodIn_sub (fun _ h => List.mem_cons_of_mem _ (List.mem_append_left _ (List.mem_append_left _ (List.mem_append_right _ h)))) (by decide +kernel))
set_option maxRecDepth 20000 in
theorem gL_step_L_shares : GoodIn wsL_step (va_wsS RL 110 yL_shares wsL_shares) := goodIn_app (goodIn_of _ (by decide +kernel)) ggL_step_L_shares
set_option maxRecDepth 20000 in
theorem ggL_step_X4_setTreaty : GoodIn wsL_step wsX4_setTreaty := goodIn_ca (goodIn_r _ [300, 12, 13, 260, 284, 23, 24, 10, 25, 20, 21, 22, 352, 353, 354, 355, 356, 357] (by decide +kernel) (by decide +kernel)) (goodIn_sub (fun _ h => List.mem_cons_of_mem _ (List.mem_append_left _ (List.mem_append_left _ (List.mem_append_right _ h)))) (by decide +kernel))
set_option maxRecDepth 20000 in
theorem gL_step_X4_setTreaty : GoodIn wsL_step (wsV RL 112 RX4 yX4_setTreaty wsX4_setTreaty) := goodIn_app (goodIn_of _ (by decide +kernel)) ggL_step_X4_setTreaty
set_option maxRecDepth 20000 in
theorem ggL_step_L_with : GoodIn wsL_step wsL_with := goodIn_r _ [295, 296] (by decide +kernel) (by decide +kernel)
set_option maxRecDepth 20000 in
theorem gL_step_L_with : GoodIn wsL_step (va_wsS RL 91 yL_with wsL_with) := goodIn_app (goodIn_of _ (by decide +kernel)) ggL_step_L_with
set_option maxRecDepth 20000 in
theorem ggL_step_X4_giveForm : GoodIn wsL_step wsX4_giveForm := goodIn_ca (goodIn_r _ [304, 133, 102, 103, 104, 10, 105, 106, 107, 16, 108, 109, 110, 111, 112, 26, 27, 28, 29, 30, 31, 20, 21, 22, 113, 114, 115, 116, 117, 118, 119, 120, 121, 122, 123, 124, 125, 126, 127, 128, 50, 352, 353, 354, 355, 356, 357, 358, 359, 360, 361, 362, 363, 364, 365, 366] (by decide +kernel) (by decide +kernel)) (goodIn_sub (fun _ h => List.mem_cons_of_mem _ (List.mem_append_right _ h)) (by decide +kernel))
set_option maxRecDepth 20000 in
theorem gL_step_X4_giveForm : GoodIn wsL_step (wsV RL 115 RX4 yX4_giveForm wsX4_giveForm) := goodIn_app (goodIn_of _ (by decide +kernel)) ggL_step_X4_giveForm
set_option maxRecDepth 20000 in
theorem ggL_step_L_parts : GoodIn wsL_step wsL_parts := goodIn_ca (goodIn_ca (goodIn_r _ [307, 141, 142, 5, 143, 308, 309, 310, 10, 311, 156, 157, 158, 159, 106, 107, 160, 161, 162, 163, 164, 165, 26, 27, 28, 29, 30, 31, 20, 21, 22, 113, 114, 115, 116, 117, 118, 119, 120, 121, 122, 123, 124, 125, 126, 127, 128, 50, 109, 110, 111, 112, 16, 166, 167, 168, 169, 170, 178, 179, 180, 181, 182, 183, 184, 185, 186, 187, 188, 189, 190, 191, 192, 193, 312, 313, 314, 315, 12, 13, 102, 103, 104, 105, 108, 271, 19, 272, 273, 38, 316, 317, 318, 352, 353, 354, 355, 356, 357, 364, 365, 366, 367, 368, 369, 370, 371, 372, 373, 374, 375, 358, 359, 360, 361, 362, 363] (by decide +kernel) (by decide +kernel)) (goodIn_sub (fun _ h => List.mem_cons_of_mem _ (List.mem_append_right _ h)) (by decide +kernel))) (goodIn_sub (fun _ h => List.mem_cons_of_mem _ (List.mem_append_left _ (List.mem_append_left _ (List.mem_append_right _ h)))) (by decide +kernel))
set_option maxRecDepth 20000 in
theorem gL_step_L_parts : GoodIn wsL_step (va_wsS RL 118 yL_parts wsL_parts) := goodIn_app (goodIn_of _ (by decide +kernel)) ggL_step_L_parts
set_option maxRecDepth 20000 in
theorem ggL_step_L_passes : GoodIn wsL_step wsL_passes := goodIn_ca (goodIn_ca (goodIn_r _ [321, 1, 141, 142, 5, 143, 293, 294, 295, 296, 322, 323, 324, 10, 325, 12, 13, 14, 15, 133, 16, 108, 20, 21, 22, 26, 27, 28, 29, 30, 31, 113, 114, 115, 116, 117, 118, 119, 120, 121, 122, 123, 124, 125, 126, 127, 128, 50, 326, 19, 327, 328, 39, 289, 41, 352, 353, 354, 355, 356, 357, 364, 365, 366, 358, 359, 360, 361, 362, 363] (by decide +kernel) (by decide +kernel)) (goodIn_sub (fun _ h => List.mem_cons_of_mem _ (List.mem_append_left _ (List.mem_append_left _ (List.mem_append_right _ h)))) (by decide +kernel))) (goodIn_sub (fun _ h => List.mem_cons_of_mem _ (List.mem_append_left _ (List.mem_append_right _ h))) (by decide +kernel))
set_option maxRecDepth 20000 in
theorem gL_step_L_passes : GoodIn wsL_step (va_wsS RL 121 yL_passes wsL_passes) := goodIn_app (goodIn_of _ (by decide +kernel)) ggL_step_L_passes
set_option maxRecDepth 20000 in
theorem ggL_step_L_pays : GoodIn wsL_step wsL_pays := goodIn_ca (goodIn_ca (goodIn_ca (goodIn_r _ [331, 332, 333, 334, 141, 142, 5, 143, 144, 145, 146, 147, 148, 149, 150, 10, 151, 152, 153, 154, 155, 14, 15, 133, 156, 157, 158, 159, 106, 107, 160, 161, 162, 163, 164, 165, 26, 27, 28, 29, 30, 31, 20, 21, 22, 113, 114, 115, 116, 117, 118, 119, 120, 121, 122, 123, 124, 125, 126, 127, 128, 50, 109, 110, 111, 112, 16, 166, 167, 168, 169, 170, 171, 172, 173, 174, 108, 134, 19, 135, 136, 40, 175, 176, 177, 178, 179, 180, 181, 182, 183, 184, 185, 186, 187, 188, 189, 190, 191, 192, 193, 194, 195, 196, 197, 198, 199, 200, 201, 202, 203, 65, 66, 67, 204, 205, 206, 207, 102, 103, 104, 105, 208, 209, 210, 211, 12, 13, 212, 213, 214, 215, 216, 217, 218, 219, 220, 221, 222, 223, 224, 225, 35, 36, 226, 227, 228, 229, 230, 231, 232, 233, 234, 235, 236, 237, 238, 239, 240, 241, 242, 243, 244, 245, 63, 246, 247, 248, 249, 250, 251, 252, 253, 254, 255, 256, 257, 258, 259, 260, 261, 262, 263, 38, 264, 265, 266, 267, 268, 269, 270, 45, 46, 47, 48, 49, 51, 52, 53, 54, 55, 56, 57, 58, 59, 60, 61, 62, 64, 68, 69, 70, 71, 72, 73, 74, 75, 76, 77, 78, 79, 80, 81, 82, 83, 84, 85, 86, 87, 88, 89, 90, 91, 92, 93, 94, 95, 96, 97, 271, 272, 273, 274, 275, 276, 277, 278, 279, 23, 24, 25, 280, 281, 282, 283, 284, 285, 286, 287, 288, 42, 39, 289, 41, 290, 291, 292, 44, 335, 336, 337, 338, 339, 340, 1, 341, 342, 343, 344, 308, 309, 310, 311, 345, 346, 347, 348, 367, 368, 369, 352, 353, 354, 355, 356, 357, 364, 365, 366, 358, 359, 360, 361, 362, 363, 370, 371, 372, 373, 374, 375] (by decide +kernel) (by decide +kernel)) (goodIn_sub (fun _ h => List.mem_cons_of_mem _ (List.mem_append_left _ (List.mem_append_right _ h))) (by decide +kernel))) (goodIn_sub (fun _ h => List.mem_cons_of_mem _ (List.mem_append_right _ h)) (by decide +kernel))) (goodIn_sub (fun _ h => List.mem_cons_of_mem _ (List.mem_append_left _ (List.mem_append_left _ (List.mem_append_right _ h)))) (by decide +kernel))
set_option maxRecDepth 20000 in
theorem gL_step_L_pays : GoodIn wsL_step (va_wsS RL 125 yL_pays wsL_pays) := goodIn_app (goodIn_of _ (by decide +kernel)) ggL_step_L_pays
set_option maxRecDepth 20000 in
theorem ggL_step_L_refunds : GoodIn wsL_step wsL_refunds := goodIn_ca (goodIn_ca (goodIn_ca (goodIn_r _ [351, 345, 346, 347, 10, 348, 156, 157, 158, 159, 106, 107, 160, 161, 162, 163, 164, 165, 26, 27, 28, 29, 30, 31, 20, 21, 22, 113, 114, 115, 116, 117, 118, 119, 120, 121, 122, 123, 124, 125, 126, 127, 128, 50, 109, 110, 111, 112, 16, 166, 167, 168, 169, 170, 308, 309, 310, 311, 178, 179, 180, 181, 182, 183, 184, 185, 186, 187, 188, 189, 190, 191, 192, 193, 141, 142, 5, 143, 341, 342, 343, 344, 144, 145, 146, 147, 148, 149, 150, 151, 152, 153, 154, 155, 14, 15, 133, 171, 172, 173, 174, 108, 134, 19, 135, 136, 40, 175, 176, 177, 194, 195, 196, 197, 198, 199, 200, 201, 202, 203, 65, 66, 67, 204, 205, 206, 207, 102, 103, 104, 105, 208, 209, 210, 211, 12, 13, 212, 213, 214, 215, 216, 217, 218, 219, 220, 221, 222, 223, 224, 225, 35, 36, 226, 227, 228, 229, 230, 231, 232, 233, 234, 235, 236, 237, 238, 239, 240, 241, 242, 243, 244, 245, 63, 246, 247, 248, 249, 250, 251, 252, 253, 254, 255, 256, 257, 258, 259, 260, 261, 262, 263, 38, 264, 265, 266, 267, 268, 269, 270, 45, 46, 47, 48, 49, 51, 52, 53, 54, 55, 56, 57, 58, 59, 60, 61, 62, 64, 68, 69, 70, 71, 72, 73, 74, 75, 76, 77, 78, 79, 80, 81, 82, 83, 84, 85, 86, 87, 88, 89, 90, 91, 92, 93, 94, 95, 96, 97, 271, 272, 273, 274, 275, 276, 277, 278, 279, 23, 24, 25, 280, 281, 282, 283, 284, 285, 286, 287, 288, 42, 39, 289, 41, 290, 291, 292, 44, 370, 371, 372, 352, 353, 354, 355, 356, 357, 364, 365, 366, 367, 368, 369, 373, 374, 375, 358, 359, 360, 361, 362, 363] (by decide +kernel) (by decide +kernel)) (goodIn_sub (fun _ h => List.mem_cons_of_mem _ (List.mem_append_right _ h)) (by decide +kernel))) (goodIn_sub (fun _ h => List.mem_cons_of_mem _ (List.mem_append_left _ (List.mem_append_right _ h))) (by decide +kernel))) (goodIn_sub (fun _ h => List.mem_cons_of_mem _ (List.mem_append_left _ (List.mem_append_left _ (List.mem_append_right _ h)))) (by decide +kernel))
set_option maxRecDepth 20000 in
theorem gL_step_L_refunds : GoodIn wsL_step (va_wsS RL 129 yL_refunds wsL_refunds) := goodIn_app (goodIn_of _ (by decide +kernel)) ggL_step_L_refunds
theorem dL_step_0 : decode cL_step 0 = .ok (.iload_n 1, 1) := by decide +kernel
theorem dL_step_1 : decode cL_step 1 = .ok (.iconst 2, 1) := by decide +kernel
theorem dL_step_2 : decode cL_step 2 = .ok (.if_icmp .lt 10, 3) := by decide +kernel
theorem dL_step_5 : decode cL_step 5 = .ok (.aload 7, 2) := by decide +kernel
theorem dL_step_7 : decode cL_step 7 = .ok (.iconst 1, 1) := by decide +kernel
theorem dL_step_8 : decode cL_step 8 = .ok (.iaload, 1) := by decide +kernel
theorem dL_step_9 : decode cL_step 9 = .ok (.ifCond .ne 14, 3) := by decide +kernel
theorem dL_step_12 : decode cL_step 12 = .ok (.aload_n 0, 1) := by decide +kernel
theorem dL_step_13 : decode cL_step 13 = .ok (.iload_n 2, 1) := by decide +kernel
theorem dL_step_14 : decode cL_step 14 = .ok (.iload_n 3, 1) := by decide +kernel
theorem dL_step_15 : decode cL_step 15 = .ok (.aload 4, 2) := by decide +kernel
theorem dL_step_17 : decode cL_step 17 = .ok (.aload 7, 2) := by decide +kernel
theorem dL_step_19 : decode cL_step 19 = .ok (.invokestatic 105, 3) := by decide +kernel
theorem dL_step_22 : decode cL_step 22 = .ok (.ireturn, 1) := by decide +kernel
theorem dL_step_23 : decode cL_step 23 = .ok (.iload_n 2, 1) := by decide +kernel
theorem dL_step_24 : decode cL_step 24 = .ok (.aload 7, 2) := by decide +kernel
theorem dL_step_26 : decode cL_step 26 = .ok (.iconst 1, 1) := by decide +kernel
theorem dL_step_27 : decode cL_step 27 = .ok (.iaload, 1) := by decide +kernel
theorem dL_step_28 : decode cL_step 28 = .ok (.irem, 1) := by decide +kernel
theorem dL_step_29 : decode cL_step 29 = .ok (.istore 9, 2) := by decide +kernel
theorem dL_step_31 : decode cL_step 31 = .ok (.iload_n 1, 1) := by decide +kernel
theorem dL_step_32 : decode cL_step 32 = .ok (.iconst 5, 1) := by decide +kernel
theorem dL_step_33 : decode cL_step 33 = .ok (.if_icmp .ge 50, 3) := by decide +kernel
theorem dL_step_36 : decode cL_step 36 = .ok (.aload_n 0, 1) := by decide +kernel
theorem dL_step_37 : decode cL_step 37 = .ok (.iload 9, 2) := by decide +kernel
theorem dL_step_39 : decode cL_step 39 = .ok (.iload_n 3, 1) := by decide +kernel
theorem dL_step_40 : decode cL_step 40 = .ok (.iconst 4, 1) := by decide +kernel
theorem dL_step_41 : decode cL_step 41 = .ok (.irem, 1) := by decide +kernel
theorem dL_step_42 : decode cL_step 42 = .ok (.ifCond .ne 7, 3) := by decide +kernel
theorem dL_step_45 : decode cL_step 45 = .ok (.iconst 0, 1) := by decide +kernel
theorem dL_step_46 : decode cL_step 46 = .ok (.goto 29, 3) := by decide +kernel
theorem dL_step_49 : decode cL_step 49 = .ok (.iload_n 3, 1) := by decide +kernel
theorem dL_step_50 : decode cL_step 50 = .ok (.iconst 4, 1) := by decide +kernel
theorem dL_step_51 : decode cL_step 51 = .ok (.irem, 1) := by decide +kernel
theorem dL_step_52 : decode cL_step 52 = .ok (.iconst 1, 1) := by decide +kernel
theorem dL_step_53 : decode cL_step 53 = .ok (.if_icmp .ne 16, 3) := by decide +kernel
theorem dL_step_56 : decode cL_step 56 = .ok (.ldc 36, 2) := by decide +kernel
theorem dL_step_58 : decode cL_step 58 = .ok (.iload_n 3, 1) := by decide +kernel
theorem dL_step_59 : decode cL_step 59 = .ok (.iconst 4, 1) := by decide +kernel
theorem dL_step_60 : decode cL_step 60 = .ok (.idiv, 1) := by decide +kernel
theorem dL_step_61 : decode cL_step 61 = .ok (.iconst 3, 1) := by decide +kernel
theorem dL_step_62 : decode cL_step 62 = .ok (.irem, 1) := by decide +kernel
theorem dL_step_63 : decode cL_step 63 = .ok (.iadd, 1) := by decide +kernel
theorem dL_step_64 : decode cL_step 64 = .ok (.iconst 1, 1) := by decide +kernel
theorem dL_step_65 : decode cL_step 65 = .ok (.isub, 1) := by decide +kernel
theorem dL_step_66 : decode cL_step 66 = .ok (.goto 9, 3) := by decide +kernel
theorem dL_step_69 : decode cL_step 69 = .ok (.iload_n 3, 1) := by decide +kernel
theorem dL_step_70 : decode cL_step 70 = .ok (.iconst 4, 1) := by decide +kernel
theorem dL_step_71 : decode cL_step 71 = .ok (.idiv, 1) := by decide +kernel
theorem dL_step_72 : decode cL_step 72 = .ok (.ldc 109, 2) := by decide +kernel
theorem dL_step_74 : decode cL_step 74 = .ok (.irem, 1) := by decide +kernel
theorem dL_step_75 : decode cL_step 75 = .ok (.aload 4, 2) := by decide +kernel
theorem dL_step_77 : decode cL_step 77 = .ok (.aload 7, 2) := by decide +kernel
theorem dL_step_79 : decode cL_step 79 = .ok (.invokestatic 110, 3) := by decide +kernel
theorem dL_step_82 : decode cL_step 82 = .ok (.ireturn, 1) := by decide +kernel
theorem dL_step_83 : decode cL_step 83 = .ok (.iload_n 1, 1) := by decide +kernel
theorem dL_step_84 : decode cL_step 84 = .ok (.iconst 5, 1) := by decide +kernel
theorem dL_step_85 : decode cL_step 85 = .ok (.if_icmp .ne 78, 3) := by decide +kernel
theorem dL_step_88 : decode cL_step 88 = .ok (.iload_n 2, 1) := by decide +kernel
theorem dL_step_89 : decode cL_step 89 = .ok (.bipush 6, 2) := by decide +kernel
theorem dL_step_91 : decode cL_step 91 = .ok (.irem, 1) := by decide +kernel
theorem dL_step_92 : decode cL_step 92 = .ok (.istore 10, 2) := by decide +kernel
theorem dL_step_94 : decode cL_step 94 = .ok (.aload 5, 2) := by decide +kernel
theorem dL_step_96 : decode cL_step 96 = .ok (.iconst 2, 1) := by decide +kernel
theorem dL_step_97 : decode cL_step 97 = .ok (.iload 10, 2) := by decide +kernel
theorem dL_step_99 : decode cL_step 99 = .ok (.imul, 1) := by decide +kernel
theorem dL_step_100 : decode cL_step 100 = .ok (.iaload, 1) := by decide +kernel
theorem dL_step_101 : decode cL_step 101 = .ok (.istore 11, 2) := by decide +kernel
theorem dL_step_103 : decode cL_step 103 = .ok (.aload 5, 2) := by decide +kernel
theorem dL_step_105 : decode cL_step 105 = .ok (.iconst 2, 1) := by decide +kernel
theorem dL_step_106 : decode cL_step 106 = .ok (.iload 10, 2) := by decide +kernel
theorem dL_step_108 : decode cL_step 108 = .ok (.imul, 1) := by decide +kernel
theorem dL_step_109 : decode cL_step 109 = .ok (.iload_n 3, 1) := by decide +kernel
theorem dL_step_110 : decode cL_step 110 = .ok (.bipush 31, 2) := by decide +kernel
theorem dL_step_112 : decode cL_step 112 = .ok (.irem, 1) := by decide +kernel
theorem dL_step_113 : decode cL_step 113 = .ok (.iastore, 1) := by decide +kernel
theorem dL_step_114 : decode cL_step 114 = .ok (.aload 5, 2) := by decide +kernel
theorem dL_step_116 : decode cL_step 116 = .ok (.iconst 2, 1) := by decide +kernel
theorem dL_step_117 : decode cL_step 117 = .ok (.iload 10, 2) := by decide +kernel
theorem dL_step_119 : decode cL_step 119 = .ok (.imul, 1) := by decide +kernel
theorem dL_step_120 : decode cL_step 120 = .ok (.iconst 1, 1) := by decide +kernel
theorem dL_step_121 : decode cL_step 121 = .ok (.iadd, 1) := by decide +kernel
theorem dL_step_122 : decode cL_step 122 = .ok (.iload_n 3, 1) := by decide +kernel
theorem dL_step_123 : decode cL_step 123 = .ok (.bipush 31, 2) := by decide +kernel
theorem dL_step_125 : decode cL_step 125 = .ok (.idiv, 1) := by decide +kernel
theorem dL_step_126 : decode cL_step 126 = .ok (.bipush 31, 2) := by decide +kernel
theorem dL_step_128 : decode cL_step 128 = .ok (.irem, 1) := by decide +kernel
theorem dL_step_129 : decode cL_step 129 = .ok (.iastore, 1) := by decide +kernel
theorem dL_step_130 : decode cL_step 130 = .ok (.aload_n 0, 1) := by decide +kernel
theorem dL_step_131 : decode cL_step 131 = .ok (.iload 10, 2) := by decide +kernel
theorem dL_step_133 : decode cL_step 133 = .ok (.aload 5, 2) := by decide +kernel
theorem dL_step_135 : decode cL_step 135 = .ok (.iconst 2, 1) := by decide +kernel
theorem dL_step_136 : decode cL_step 136 = .ok (.iload 10, 2) := by decide +kernel
theorem dL_step_138 : decode cL_step 138 = .ok (.imul, 1) := by decide +kernel
theorem dL_step_139 : decode cL_step 139 = .ok (.iaload, 1) := by decide +kernel
theorem dL_step_140 : decode cL_step 140 = .ok (.aload 5, 2) := by decide +kernel
theorem dL_step_142 : decode cL_step 142 = .ok (.iconst 2, 1) := by decide +kernel
theorem dL_step_143 : decode cL_step 143 = .ok (.iload 10, 2) := by decide +kernel
theorem dL_step_145 : decode cL_step 145 = .ok (.imul, 1) := by decide +kernel
theorem dL_step_146 : decode cL_step 146 = .ok (.iconst 1, 1) := by decide +kernel
theorem dL_step_147 : decode cL_step 147 = .ok (.iadd, 1) := by decide +kernel
theorem dL_step_148 : decode cL_step 148 = .ok (.iaload, 1) := by decide +kernel
theorem dL_step_149 : decode cL_step 149 = .ok (.invokevirtual 112, 3) := by decide +kernel
theorem dL_step_152 : decode cL_step 152 = .ok (.iload 11, 2) := by decide +kernel
theorem dL_step_154 : decode cL_step 154 = .ok (.if_icmp .ne 7, 3) := by decide +kernel
theorem dL_step_157 : decode cL_step 157 = .ok (.iconst 1, 1) := by decide +kernel
theorem dL_step_158 : decode cL_step 158 = .ok (.goto 4, 3) := by decide +kernel
theorem dL_step_161 : decode cL_step 161 = .ok (.iconst 0, 1) := by decide +kernel
theorem dL_step_162 : decode cL_step 162 = .ok (.ireturn, 1) := by decide +kernel
theorem dL_step_163 : decode cL_step 163 = .ok (.iload_n 1, 1) := by decide +kernel
theorem dL_step_164 : decode cL_step 164 = .ok (.bipush 8, 2) := by decide +kernel
theorem dL_step_166 : decode cL_step 166 = .ok (.if_icmp .ge 51, 3) := by decide +kernel
theorem dL_step_169 : decode cL_step 169 = .ok (.aload 4, 2) := by decide +kernel
theorem dL_step_171 : decode cL_step 171 = .ok (.iload 9, 2) := by decide +kernel
theorem dL_step_173 : decode cL_step 173 = .ok (.aload 4, 2) := by decide +kernel
theorem dL_step_175 : decode cL_step 175 = .ok (.iload 9, 2) := by decide +kernel
theorem dL_step_177 : decode cL_step 177 = .ok (.laload, 1) := by decide +kernel
theorem dL_step_178 : decode cL_step 178 = .ok (.bipush 25, 2) := by decide +kernel
theorem dL_step_180 : decode cL_step 180 = .ok (.bipush 15, 2) := by decide +kernel
theorem dL_step_182 : decode cL_step 182 = .ok (.aload 7, 2) := by decide +kernel
theorem dL_step_184 : decode cL_step 184 = .ok (.iconst 0, 1) := by decide +kernel
theorem dL_step_185 : decode cL_step 185 = .ok (.iaload, 1) := by decide +kernel
theorem dL_step_186 : decode cL_step 186 = .ok (.sipush 1081, 3) := by decide +kernel
theorem dL_step_189 : decode cL_step 189 = .ok (.iadd, 1) := by decide +kernel
theorem dL_step_190 : decode cL_step 190 = .ok (.invokestatic 91, 3) := by decide +kernel
theorem dL_step_193 : decode cL_step 193 = .ok (.lastore, 1) := by decide +kernel
theorem dL_step_194 : decode cL_step 194 = .ok (.aload_n 0, 1) := by decide +kernel
theorem dL_step_195 : decode cL_step 195 = .ok (.iload 9, 2) := by decide +kernel
theorem dL_step_197 : decode cL_step 197 = .ok (.invokevirtual 115, 3) := by decide +kernel
theorem dL_step_200 : decode cL_step 200 = .ok (.aload 7, 2) := by decide +kernel
theorem dL_step_202 : decode cL_step 202 = .ok (.iconst 0, 1) := by decide +kernel
theorem dL_step_203 : decode cL_step 203 = .ok (.iaload, 1) := by decide +kernel
theorem dL_step_204 : decode cL_step 204 = .ok (.sipush 1080, 3) := by decide +kernel
theorem dL_step_207 : decode cL_step 207 = .ok (.iadd, 1) := by decide +kernel
theorem dL_step_208 : decode cL_step 208 = .ok (.if_icmp .ne 7, 3) := by decide +kernel
theorem dL_step_211 : decode cL_step 211 = .ok (.iconst 1, 1) := by decide +kernel
theorem dL_step_212 : decode cL_step 212 = .ok (.goto 4, 3) := by decide +kernel
theorem dL_step_215 : decode cL_step 215 = .ok (.iconst 0, 1) := by decide +kernel
theorem dL_step_216 : decode cL_step 216 = .ok (.ireturn, 1) := by decide +kernel
theorem dL_step_217 : decode cL_step 217 = .ok (.iload_n 1, 1) := by decide +kernel
theorem dL_step_218 : decode cL_step 218 = .ok (.bipush 8, 2) := by decide +kernel
theorem dL_step_220 : decode cL_step 220 = .ok (.if_icmp .ne 14, 3) := by decide +kernel
theorem dL_step_223 : decode cL_step 223 = .ok (.aload_n 0, 1) := by decide +kernel
theorem dL_step_224 : decode cL_step 224 = .ok (.iload_n 2, 1) := by decide +kernel
theorem dL_step_225 : decode cL_step 225 = .ok (.iload_n 3, 1) := by decide +kernel
theorem dL_step_226 : decode cL_step 226 = .ok (.aload 4, 2) := by decide +kernel
theorem dL_step_228 : decode cL_step 228 = .ok (.aload 7, 2) := by decide +kernel
theorem dL_step_230 : decode cL_step 230 = .ok (.invokestatic 118, 3) := by decide +kernel
theorem dL_step_233 : decode cL_step 233 = .ok (.ireturn, 1) := by decide +kernel
theorem dL_step_234 : decode cL_step 234 = .ok (.iload_n 1, 1) := by decide +kernel
theorem dL_step_235 : decode cL_step 235 = .ok (.bipush 11, 2) := by decide +kernel
theorem dL_step_237 : decode cL_step 237 = .ok (.if_icmp .ge 82, 3) := by decide +kernel
theorem dL_step_240 : decode cL_step 240 = .ok (.iload_n 3, 1) := by decide +kernel
theorem dL_step_241 : decode cL_step 241 = .ok (.iconst 4, 1) := by decide +kernel
theorem dL_step_242 : decode cL_step 242 = .ok (.irem, 1) := by decide +kernel
theorem dL_step_243 : decode cL_step 243 = .ok (.ifCond .ne 15, 3) := by decide +kernel
theorem dL_step_246 : decode cL_step 246 = .ok (.iconst 1, 1) := by decide +kernel
theorem dL_step_247 : decode cL_step 247 = .ok (.iload_n 3, 1) := by decide +kernel
theorem dL_step_248 : decode cL_step 248 = .ok (.iconst 4, 1) := by decide +kernel
theorem dL_step_249 : decode cL_step 249 = .ok (.idiv, 1) := by decide +kernel
theorem dL_step_250 : decode cL_step 250 = .ok (.sipush 900, 3) := by decide +kernel
theorem dL_step_253 : decode cL_step 253 = .ok (.irem, 1) := by decide +kernel
theorem dL_step_254 : decode cL_step 254 = .ok (.iadd, 1) := by decide +kernel
theorem dL_step_255 : decode cL_step 255 = .ok (.goto 30, 3) := by decide +kernel
theorem dL_step_258 : decode cL_step 258 = .ok (.iload_n 3, 1) := by decide +kernel
theorem dL_step_259 : decode cL_step 259 = .ok (.iconst 4, 1) := by decide +kernel
theorem dL_step_260 : decode cL_step 260 = .ok (.irem, 1) := by decide +kernel
theorem dL_step_261 : decode cL_step 261 = .ok (.iconst 1, 1) := by decide +kernel
theorem dL_step_262 : decode cL_step 262 = .ok (.if_icmp .ne 15, 3) := by decide +kernel
theorem dL_step_265 : decode cL_step 265 = .ok (.sipush 363, 3) := by decide +kernel
theorem dL_step_268 : decode cL_step 268 = .ok (.iload_n 3, 1) := by decide +kernel
theorem dL_step_269 : decode cL_step 269 = .ok (.iconst 4, 1) := by decide +kernel
theorem dL_step_270 : decode cL_step 270 = .ok (.idiv, 1) := by decide +kernel
theorem dL_step_271 : decode cL_step 271 = .ok (.iconst 4, 1) := by decide +kernel
theorem dL_step_272 : decode cL_step 272 = .ok (.irem, 1) := by decide +kernel
theorem dL_step_273 : decode cL_step 273 = .ok (.iadd, 1) := by decide +kernel
theorem dL_step_274 : decode cL_step 274 = .ok (.goto 11, 3) := by decide +kernel
theorem dL_step_277 : decode cL_step 277 = .ok (.iconst 1, 1) := by decide +kernel
theorem dL_step_278 : decode cL_step 278 = .ok (.iload_n 3, 1) := by decide +kernel
theorem dL_step_279 : decode cL_step 279 = .ok (.iconst 4, 1) := by decide +kernel
theorem dL_step_280 : decode cL_step 280 = .ok (.idiv, 1) := by decide +kernel
theorem dL_step_281 : decode cL_step 281 = .ok (.bipush 40, 2) := by decide +kernel
theorem dL_step_283 : decode cL_step 283 = .ok (.irem, 1) := by decide +kernel
theorem dL_step_284 : decode cL_step 284 = .ok (.iadd, 1) := by decide +kernel
theorem dL_step_285 : decode cL_step 285 = .ok (.istore 10, 2) := by decide +kernel
theorem dL_step_287 : decode cL_step 287 = .ok (.aload 7, 2) := by decide +kernel
theorem dL_step_289 : decode cL_step 289 = .ok (.iconst 0, 1) := by decide +kernel
theorem dL_step_290 : decode cL_step 290 = .ok (.iaload, 1) := by decide +kernel
theorem dL_step_291 : decode cL_step 291 = .ok (.iload 10, 2) := by decide +kernel
theorem dL_step_293 : decode cL_step 293 = .ok (.iadd, 1) := by decide +kernel
theorem dL_step_294 : decode cL_step 294 = .ok (.sipush 20000, 3) := by decide +kernel
theorem dL_step_297 : decode cL_step 297 = .ok (.if_icmp .gt 16, 3) := by decide +kernel
theorem dL_step_300 : decode cL_step 300 = .ok (.aload_n 0, 1) := by decide +kernel
theorem dL_step_301 : decode cL_step 301 = .ok (.iload 10, 2) := by decide +kernel
theorem dL_step_303 : decode cL_step 303 = .ok (.aload 4, 2) := by decide +kernel
theorem dL_step_305 : decode cL_step 305 = .ok (.aload 7, 2) := by decide +kernel
theorem dL_step_307 : decode cL_step 307 = .ok (.invokestatic 121, 3) := by decide +kernel
theorem dL_step_310 : decode cL_step 310 = .ok (.ifCond .eq 7, 3) := by decide +kernel
theorem dL_step_313 : decode cL_step 313 = .ok (.iconst 1, 1) := by decide +kernel
theorem dL_step_314 : decode cL_step 314 = .ok (.goto 4, 3) := by decide +kernel
theorem dL_step_317 : decode cL_step 317 = .ok (.iconst 0, 1) := by decide +kernel
theorem dL_step_318 : decode cL_step 318 = .ok (.ireturn, 1) := by decide +kernel
theorem dL_step_319 : decode cL_step 319 = .ok (.iload_n 1, 1) := by decide +kernel
theorem dL_step_320 : decode cL_step 320 = .ok (.bipush 13, 2) := by decide +kernel
theorem dL_step_322 : decode cL_step 322 = .ok (.if_icmp .lt 10, 3) := by decide +kernel
theorem dL_step_325 : decode cL_step 325 = .ok (.aload 7, 2) := by decide +kernel
theorem dL_step_327 : decode cL_step 327 = .ok (.iconst 2, 1) := by decide +kernel
theorem dL_step_328 : decode cL_step 328 = .ok (.iaload, 1) := by decide +kernel
theorem dL_step_329 : decode cL_step 329 = .ok (.ifCond .ne 54, 3) := by decide +kernel
theorem dL_step_332 : decode cL_step 332 = .ok (.aload 7, 2) := by decide +kernel
theorem dL_step_334 : decode cL_step 334 = .ok (.iconst 2, 1) := by decide +kernel
theorem dL_step_335 : decode cL_step 335 = .ok (.iaload, 1) := by decide +kernel
theorem dL_step_336 : decode cL_step 336 = .ok (.bipush 12, 2) := by decide +kernel
theorem dL_step_338 : decode cL_step 338 = .ok (.if_icmp .ne 5, 3) := by decide +kernel
theorem dL_step_341 : decode cL_step 341 = .ok (.iconst 1, 1) := by decide +kernel
theorem dL_step_342 : decode cL_step 342 = .ok (.ireturn, 1) := by decide +kernel
theorem dL_step_343 : decode cL_step 343 = .ok (.aload 6, 2) := by decide +kernel
theorem dL_step_345 : decode cL_step 345 = .ok (.aload 7, 2) := by decide +kernel
theorem dL_step_347 : decode cL_step 347 = .ok (.iconst 2, 1) := by decide +kernel
theorem dL_step_348 : decode cL_step 348 = .ok (.iaload, 1) := by decide +kernel
theorem dL_step_349 : decode cL_step 349 = .ok (.aload 7, 2) := by decide +kernel
theorem dL_step_351 : decode cL_step 351 = .ok (.iconst 0, 1) := by decide +kernel
theorem dL_step_352 : decode cL_step 352 = .ok (.iaload, 1) := by decide +kernel
theorem dL_step_353 : decode cL_step 353 = .ok (.iastore, 1) := by decide +kernel
theorem dL_step_354 : decode cL_step 354 = .ok (.aload_n 0, 1) := by decide +kernel
theorem dL_step_355 : decode cL_step 355 = .ok (.iconst 1, 1) := by decide +kernel
theorem dL_step_356 : decode cL_step 356 = .ok (.iload_n 3, 1) := by decide +kernel
theorem dL_step_357 : decode cL_step 357 = .ok (.iload_n 2, 1) := by decide +kernel
theorem dL_step_358 : decode cL_step 358 = .ok (.iconst 3, 1) := by decide +kernel
theorem dL_step_359 : decode cL_step 359 = .ok (.irem, 1) := by decide +kernel
theorem dL_step_360 : decode cL_step 360 = .ok (.ifCond .ne 9, 3) := by decide +kernel
theorem dL_step_363 : decode cL_step 363 = .ok (.sipush 1000, 3) := by decide +kernel
theorem dL_step_366 : decode cL_step 366 = .ok (.goto 5, 3) := by decide +kernel
theorem dL_step_369 : decode cL_step 369 = .ok (.bipush 30, 2) := by decide +kernel
theorem dL_step_371 : decode cL_step 371 = .ok (.irem, 1) := by decide +kernel
theorem dL_step_372 : decode cL_step 372 = .ok (.iadd, 1) := by decide +kernel
theorem dL_step_373 : decode cL_step 373 = .ok (.aload 4, 2) := by decide +kernel
theorem dL_step_375 : decode cL_step 375 = .ok (.aload 5, 2) := by decide +kernel
theorem dL_step_377 : decode cL_step 377 = .ok (.aload 7, 2) := by decide +kernel
theorem dL_step_379 : decode cL_step 379 = .ok (.invokestatic 125, 3) := by decide +kernel
theorem dL_step_382 : decode cL_step 382 = .ok (.ireturn, 1) := by decide +kernel
theorem dL_step_383 : decode cL_step 383 = .ok (.aload_n 0, 1) := by decide +kernel
theorem dL_step_384 : decode cL_step 384 = .ok (.iload_n 1, 1) := by decide +kernel
theorem dL_step_385 : decode cL_step 385 = .ok (.iconst 2, 1) := by decide +kernel
theorem dL_step_386 : decode cL_step 386 = .ok (.irem, 1) := by decide +kernel
theorem dL_step_387 : decode cL_step 387 = .ok (.iload_n 2, 1) := by decide +kernel
theorem dL_step_388 : decode cL_step 388 = .ok (.bipush 20, 2) := by decide +kernel
theorem dL_step_390 : decode cL_step 390 = .ok (.idiv, 1) := by decide +kernel
theorem dL_step_391 : decode cL_step 391 = .ok (.iconst 4, 1) := by decide +kernel
theorem dL_step_392 : decode cL_step 392 = .ok (.irem, 1) := by decide +kernel
theorem dL_step_393 : decode cL_step 393 = .ok (.ifCond .le 12, 3) := by decide +kernel
theorem dL_step_396 : decode cL_step 396 = .ok (.aload 7, 2) := by decide +kernel
theorem dL_step_398 : decode cL_step 398 = .ok (.iconst 2, 1) := by decide +kernel
theorem dL_step_399 : decode cL_step 399 = .ok (.iaload, 1) := by decide +kernel
theorem dL_step_400 : decode cL_step 400 = .ok (.iconst 1, 1) := by decide +kernel
theorem dL_step_401 : decode cL_step 401 = .ok (.isub, 1) := by decide +kernel
theorem dL_step_402 : decode cL_step 402 = .ok (.goto 9, 3) := by decide +kernel
theorem dL_step_405 : decode cL_step 405 = .ok (.iload_n 3, 1) := by decide +kernel
theorem dL_step_406 : decode cL_step 406 = .ok (.aload 7, 2) := by decide +kernel
theorem dL_step_408 : decode cL_step 408 = .ok (.iconst 2, 1) := by decide +kernel
theorem dL_step_409 : decode cL_step 409 = .ok (.iaload, 1) := by decide +kernel
theorem dL_step_410 : decode cL_step 410 = .ok (.irem, 1) := by decide +kernel
theorem dL_step_411 : decode cL_step 411 = .ok (.iload 9, 2) := by decide +kernel
theorem dL_step_413 : decode cL_step 413 = .ok (.aload 4, 2) := by decide +kernel
theorem dL_step_415 : decode cL_step 415 = .ok (.aload 6, 2) := by decide +kernel
theorem dL_step_417 : decode cL_step 417 = .ok (.aload 7, 2) := by decide +kernel
theorem dL_step_419 : decode cL_step 419 = .ok (.aload 8, 2) := by decide +kernel
theorem dL_step_421 : decode cL_step 421 = .ok (.invokestatic 129, 3) := by decide +kernel
theorem dL_step_424 : decode cL_step 424 = .ok (.ireturn, 1) := by decide +kernel
set_option maxRecDepth 20000 in
theorem ggL_desk_X4_init : GoodIn wsL_desk wsX4_init := goodIn_r _ [9, 10, 11, 12, 5, 13, 14, 15, 16, 17, 18, 19, 20, 21, 22, 23, 24, 25, 26, 27, 28, 29, 30, 31, 32, 33, 34, 35, 36, 401, 402, 403, 404, 405, 406, 407, 408, 409] (by decide +kernel) (by decide +kernel)
set_option maxRecDepth 20000 in
theorem gL_desk_X4_init : GoodIn wsL_desk (wsX4_init) := ggL_desk_X4_init
set_option maxRecDepth 20000 in
theorem ggL_desk_L_draw : GoodIn wsL_desk wsL_draw := goodIn_r _ [40, 41, 42, 43] (by decide +kernel) (by decide +kernel)
set_option maxRecDepth 20000 in
theorem gL_desk_L_draw : GoodIn wsL_desk (va_wsS RL 135 yL_draw wsL_draw) := goodIn_app (goodIn_of _ (by decide +kernel)) ggL_desk_L_draw
theorem goodIn_cons9 {big a : List Cond} {c : Cond} (hc : GoodIn big [c]) (ha : GoodIn big a) : GoodIn big (c :: a) := fun w h => (List.mem_cons.mp h).elim (fun e => hc w (List.mem_cons.mpr (Or.inl e))) (ha w)
set_option maxRecDepth 20000 in
theorem ggL_desk_L_step_c : GoodIn wsL_desk [Cond.code yL_step cL_step 12 (some .boolean)] := goodIn_r _ [46] (by decide +kernel) (by decide +kernel)
set_option maxRecDepth 20000 in
theorem ggL_desk_L_step_r1 : GoodIn wsL_desk wsL_step_r1 := goodIn_r _ [47, 48, 49, 50, 39, 51, 52, 53, 54, 3, 55, 56, 57, 58, 59, 18, 60, 61, 62, 63, 64, 65, 66, 67] (by decide +kernel) (by decide +kernel)
set_option maxRecDepth 20000 in
theorem ggL_desk_L_step_r2 : GoodIn wsL_desk wsL_step_r2 := goodIn_r _ [68, 69, 70, 71, 17, 72, 73, 74, 75, 76, 11, 12, 5, 77, 78, 79, 80, 81, 82, 83, 84, 85, 86, 87] (by decide +kernel) (by decide +kernel)
set_option maxRecDepth 20000 in
theorem ggL_desk_L_step_r3 : GoodIn wsL_desk wsL_step_r3 := goodIn_r _ [88, 26, 89, 90, 91, 92, 93, 94, 95, 96, 97, 98, 99, 100, 25, 101, 102, 103, 104, 105, 106, 107, 108, 109] (by decide +kernel) (by decide +kernel)
set_option maxRecDepth 20000 in
theorem ggL_desk_L_step_r4 : GoodIn wsL_desk wsL_step_r4 := goodIn_r _ [110, 111, 112, 113, 114, 115, 116, 117, 118, 119, 120, 121, 122, 123, 124, 125, 126, 127, 128, 129, 130, 131, 132, 133] (by decide +kernel) (by decide +kernel)
set_option maxRecDepth 20000 in
theorem ggL_desk_L_step_r5 : GoodIn wsL_desk wsL_step_r5 := goodIn_r _ [134, 135, 136, 137, 138, 139, 140, 141, 142, 143, 144, 145, 146, 147, 148, 149, 150, 151, 152, 153, 154, 155, 156, 157] (by decide +kernel) (by decide +kernel)
set_option maxRecDepth 20000 in
theorem ggL_desk_L_step_r6 : GoodIn wsL_desk wsL_step_r6 := goodIn_r _ [158, 159, 160, 161, 162, 163, 164, 165, 166, 167, 168, 169, 20, 170, 171, 172, 173, 174, 175, 176, 177, 178, 179, 180] (by decide +kernel) (by decide +kernel)
set_option maxRecDepth 20000 in
theorem ggL_desk_L_step_r7 : GoodIn wsL_desk wsL_step_r7 := goodIn_r _ [181, 182, 183, 184, 185, 186, 187, 188, 189, 190, 191, 192, 193, 194, 195, 196, 197, 198, 199, 19, 200, 201, 202, 203] (by decide +kernel) (by decide +kernel)
set_option maxRecDepth 20000 in
theorem ggL_desk_L_step_r8 : GoodIn wsL_desk wsL_step_r8 := goodIn_r _ [204, 205, 206, 207, 208, 209, 210, 211, 212, 213, 214, 215, 216, 217, 218, 219, 220, 221, 222, 223, 224, 225, 226, 227] (by decide +kernel) (by decide +kernel)
set_option maxRecDepth 20000 in
theorem ggL_desk_L_step_r9 : GoodIn wsL_desk wsL_step_r9 := goodIn_r _ [228, 229, 230, 231, 232, 21, 233, 234, 235, 236, 237, 238, 239, 240, 241, 242, 243, 244, 245, 246, 247, 248, 249, 250] (by decide +kernel) (by decide +kernel)
set_option maxRecDepth 20000 in
theorem ggL_desk_L_step_r10 : GoodIn wsL_desk wsL_step_r10 := goodIn_r _ [251, 252, 253, 254, 255, 256, 257, 258, 259, 260, 261, 262, 263, 264, 265, 266, 267, 268, 269, 270, 271, 272, 273, 274] (by decide +kernel) (by decide +kernel)
set_option maxRecDepth 20000 in
theorem ggL_desk_L_step_r11 : GoodIn wsL_desk wsL_step_r11 := goodIn_r _ [16, 275, 276, 23, 24, 27, 28, 29, 30, 31, 32, 33, 34, 35, 36, 277, 278, 279, 280, 13, 281, 282, 283, 284] (by decide +kernel) (by decide +kernel)
set_option maxRecDepth 20000 in
theorem ggL_desk_L_step_r12 : GoodIn wsL_desk wsL_step_r12 := goodIn_r _ [285, 286, 287, 288, 289, 290, 291, 292, 293, 294, 295, 296, 297, 298, 299, 300, 301, 302, 303, 14, 304, 305, 306, 307] (by decide +kernel) (by decide +kernel)
set_option maxRecDepth 20000 in
theorem ggL_desk_L_step_r13 : GoodIn wsL_desk wsL_step_r13 := goodIn_r _ [308, 309, 310, 311, 312, 313, 314, 315, 316, 317, 318, 319, 320, 321, 322, 323, 324, 325, 326, 327, 328, 329, 330, 331] (by decide +kernel) (by decide +kernel)
set_option maxRecDepth 20000 in
theorem ggL_desk_L_step_r14 : GoodIn wsL_desk wsL_step_r14 := goodIn_r _ [332, 333, 334, 335, 336, 337, 338, 339, 340, 341, 342, 343, 344, 345, 346, 347, 348, 349, 350, 351, 352, 353, 354, 355] (by decide +kernel) (by decide +kernel)
set_option maxRecDepth 20000 in
theorem ggL_desk_L_step_r15 : GoodIn wsL_desk wsL_step_r15 := goodIn_r _ [356, 357, 358, 359, 360, 361, 362, 363, 364, 365, 366, 367, 368, 369, 370] (by decide +kernel) (by decide +kernel)
set_option maxRecDepth 20000 in
theorem ggL_desk_L_step_wsX40 : GoodIn wsL_desk wsX40 := goodIn_r _ [401, 402, 403, 404, 405, 406] (by decide +kernel) (by decide +kernel)
set_option maxRecDepth 20000 in
theorem ggL_desk_L_step_wsX10 : GoodIn wsL_desk wsX10 := goodIn_r _ [410, 411, 412, 413, 414, 415] (by decide +kernel) (by decide +kernel)
set_option maxRecDepth 20000 in
theorem ggL_desk_L_step_wsJx4a65c0 : GoodIn wsL_desk wsJx4a65c0 := goodIn_r _ [407, 408, 409] (by decide +kernel) (by decide +kernel)
set_option maxRecDepth 20000 in
theorem ggL_desk_L_step_wsX00 : GoodIn wsL_desk wsX00 := goodIn_r _ [416, 417, 418] (by decide +kernel) (by decide +kernel)
set_option maxRecDepth 20000 in
theorem ggL_desk_L_step_wsX20 : GoodIn wsL_desk wsX20 := goodIn_r _ [419, 420, 421] (by decide +kernel) (by decide +kernel)
set_option maxRecDepth 20000 in
theorem ggL_desk_L_step_wsX30 : GoodIn wsL_desk wsX30 := goodIn_r _ [422, 423, 424] (by decide +kernel) (by decide +kernel)
theorem ggL_desk_L_step : GoodIn wsL_desk wsL_step := goodIn_cons9 ggL_desk_L_step_c (goodIn_app (goodIn_app (goodIn_app (goodIn_app (goodIn_app (goodIn_app (goodIn_app (goodIn_app (goodIn_app (goodIn_app ggL_desk_L_step_r1 (goodIn_app ggL_desk_L_step_r2 (goodIn_app ggL_desk_L_step_r3 (goodIn_app ggL_desk_L_step_r4 (goodIn_app ggL_desk_L_step_r5 (goodIn_app ggL_desk_L_step_r6 (goodIn_app ggL_desk_L_step_r7 (goodIn_app ggL_desk_L_step_r8 (goodIn_app ggL_desk_L_step_r9 (goodIn_app ggL_desk_L_step_r10 (goodIn_app ggL_desk_L_step_r11 (goodIn_app ggL_desk_L_step_r12 (goodIn_app ggL_desk_L_step_r13 (goodIn_app ggL_desk_L_step_r14 ggL_desk_L_step_r15)))))))))))))) ggL_desk_L_step_wsX40) ggL_desk_L_step_wsX10) ggL_desk_L_step_wsJx4a65c0) ggL_desk_L_step_wsX00) ggL_desk_L_step_wsX20) ggL_desk_L_step_wsX30) (goodIn_sub (fun _ h => List.mem_cons_of_mem _ (List.mem_append_left _ (List.mem_append_left _ (List.mem_append_right _ h)))) (by decide +kernel))) (goodIn_sub (fun _ h => List.mem_cons_of_mem _ (List.mem_append_left _ (List.mem_append_right _ h))) (by decide +kernel))) (goodIn_sub (fun _ h => List.mem_cons_of_mem _ (List.mem_append_right _ h)) (by decide +kernel)))
set_option maxRecDepth 20000 in
theorem gL_desk_L_step : GoodIn wsL_desk (va_wsS RL 139 yL_step wsL_step) := goodIn_app (goodIn_of _ (by decide +kernel)) ggL_desk_L_step
set_option maxRecDepth 20000 in
theorem ggL_desk_L_isDesk : GoodIn wsL_desk wsL_isDesk := goodIn_ca (goodIn_ca (goodIn_r _ [373, 352, 351, 374, 375, 376, 3, 377, 20, 378, 379, 380, 381, 19, 69, 70, 71, 17, 72, 73, 382, 383, 384, 385, 21, 135, 136, 137, 138, 139, 140, 141, 142, 143, 144, 18, 145, 146, 147, 148, 149, 63, 64, 65, 150, 151, 152, 153, 154, 155, 156, 157, 158, 159, 160, 161, 162, 163, 164, 165, 26, 177, 178, 39, 179, 166, 167, 168, 169, 170, 62, 171, 172, 79, 386, 387, 388, 389, 305, 306, 307, 81, 78, 308, 80, 357, 358, 359, 47, 390, 391, 392, 393, 56, 57, 300, 301, 302, 303, 13, 14, 304, 129, 103, 130, 297, 298, 299, 66, 67, 68, 354, 355, 356, 364, 365, 366, 367, 192, 193, 194, 195, 196, 197, 198, 199, 200, 201, 202, 203, 204, 205, 327, 328, 329, 330, 213, 214, 215, 216, 217, 218, 219, 220, 221, 222, 223, 224, 225, 226, 227, 228, 360, 361, 362, 363, 394, 395, 396, 397, 398, 399, 400, 401, 402, 403, 404, 405, 406, 407, 408, 409, 410, 411, 412, 413, 414, 415, 419, 420, 421, 416, 417, 418, 422, 423, 424] (by decide +kernel) (by decide +kernel)) (goodIn_sub (fun _ h => List.mem_cons_of_mem _ (List.mem_append_right _ h)) (by decide +kernel))) (goodIn_sub (fun _ h => List.mem_cons_of_mem _ (List.mem_append_left _ (List.mem_append_left _ (List.mem_append_right _ h)))) (by decide +kernel))
set_option maxRecDepth 20000 in
theorem gL_desk_L_isDesk : GoodIn wsL_desk (va_wsS RL 143 yL_isDesk wsL_isDesk) := goodIn_app (goodIn_of _ (by decide +kernel)) ggL_desk_L_isDesk
theorem dL_desk_0 : decode cL_desk 0 = .ok (.new 13, 3) := by decide +kernel
theorem dL_desk_3 : decode cL_desk 3 = .ok (.dup, 1) := by decide +kernel
theorem dL_desk_4 : decode cL_desk 4 = .ok (.invokespecial 133, 3) := by decide +kernel
theorem dL_desk_7 : decode cL_desk 7 = .ok (.astore_n 2, 1) := by decide +kernel
theorem dL_desk_8 : decode cL_desk 8 = .ok (.bipush 20, 2) := by decide +kernel
theorem dL_desk_10 : decode cL_desk 10 = .ok (.newarray .long, 2) := by decide +kernel
theorem dL_desk_12 : decode cL_desk 12 = .ok (.astore_n 3, 1) := by decide +kernel
theorem dL_desk_13 : decode cL_desk 13 = .ok (.bipush 12, 2) := by decide +kernel
theorem dL_desk_15 : decode cL_desk 15 = .ok (.newarray .int, 2) := by decide +kernel
theorem dL_desk_17 : decode cL_desk 17 = .ok (.astore 4, 2) := by decide +kernel
theorem dL_desk_19 : decode cL_desk 19 = .ok (.bipush 13, 2) := by decide +kernel
theorem dL_desk_21 : decode cL_desk 21 = .ok (.newarray .int, 2) := by decide +kernel
theorem dL_desk_23 : decode cL_desk 23 = .ok (.astore 5, 2) := by decide +kernel
theorem dL_desk_25 : decode cL_desk 25 = .ok (.iconst 3, 1) := by decide +kernel
theorem dL_desk_26 : decode cL_desk 26 = .ok (.newarray .int, 2) := by decide +kernel
theorem dL_desk_28 : decode cL_desk 28 = .ok (.astore 6, 2) := by decide +kernel
theorem dL_desk_30 : decode cL_desk 30 = .ok (.iconst 1, 1) := by decide +kernel
theorem dL_desk_31 : decode cL_desk 31 = .ok (.newarray .long, 2) := by decide +kernel
theorem dL_desk_33 : decode cL_desk 33 = .ok (.astore 7, 2) := by decide +kernel
theorem dL_desk_35 : decode cL_desk 35 = .ok (.iconst 0, 1) := by decide +kernel
theorem dL_desk_36 : decode cL_desk 36 = .ok (.istore 8, 2) := by decide +kernel
theorem dL_desk_38 : decode cL_desk 38 = .ok (.iload 8, 2) := by decide +kernel
theorem dL_desk_40 : decode cL_desk 40 = .ok (.bipush 12, 2) := by decide +kernel
theorem dL_desk_42 : decode cL_desk 42 = .ok (.if_icmp .ge 16, 3) := by decide +kernel
theorem dL_desk_45 : decode cL_desk 45 = .ok (.aload 4, 2) := by decide +kernel
theorem dL_desk_47 : decode cL_desk 47 = .ok (.iload 8, 2) := by decide +kernel
theorem dL_desk_49 : decode cL_desk 49 = .ok (.bipush 30, 2) := by decide +kernel
theorem dL_desk_51 : decode cL_desk 51 = .ok (.iastore, 1) := by decide +kernel
theorem dL_desk_52 : decode cL_desk 52 = .ok (.iinc 8 1, 3) := by decide +kernel
theorem dL_desk_55 : decode cL_desk 55 = .ok (.goto (-17), 3) := by decide +kernel
theorem dL_desk_58 : decode cL_desk 58 = .ok (.iconst 0, 1) := by decide +kernel
theorem dL_desk_59 : decode cL_desk 59 = .ok (.istore 8, 2) := by decide +kernel
theorem dL_desk_61 : decode cL_desk 61 = .ok (.iload 8, 2) := by decide +kernel
theorem dL_desk_63 : decode cL_desk 63 = .ok (.bipush 60, 2) := by decide +kernel
theorem dL_desk_65 : decode cL_desk 65 = .ok (.if_icmp .ge 139, 3) := by decide +kernel
theorem dL_desk_68 : decode cL_desk 68 = .ok (.aload_n 0, 1) := by decide +kernel
theorem dL_desk_69 : decode cL_desk 69 = .ok (.iload_n 1, 1) := by decide +kernel
theorem dL_desk_70 : decode cL_desk 70 = .ok (.iconst 3, 1) := by decide +kernel
theorem dL_desk_71 : decode cL_desk 71 = .ok (.iload 8, 2) := by decide +kernel
theorem dL_desk_73 : decode cL_desk 73 = .ok (.imul, 1) := by decide +kernel
theorem dL_desk_74 : decode cL_desk 74 = .ok (.iadd, 1) := by decide +kernel
theorem dL_desk_75 : decode cL_desk 75 = .ok (.iconst 1, 1) := by decide +kernel
theorem dL_desk_76 : decode cL_desk 76 = .ok (.iadd, 1) := by decide +kernel
theorem dL_desk_77 : decode cL_desk 77 = .ok (.ldc 134, 2) := by decide +kernel
theorem dL_desk_79 : decode cL_desk 79 = .ok (.invokestatic 135, 3) := by decide +kernel
theorem dL_desk_82 : decode cL_desk 82 = .ok (.istore 9, 2) := by decide +kernel
theorem dL_desk_84 : decode cL_desk 84 = .ok (.aload_n 0, 1) := by decide +kernel
theorem dL_desk_85 : decode cL_desk 85 = .ok (.iload_n 1, 1) := by decide +kernel
theorem dL_desk_86 : decode cL_desk 86 = .ok (.iconst 3, 1) := by decide +kernel
theorem dL_desk_87 : decode cL_desk 87 = .ok (.iload 8, 2) := by decide +kernel
theorem dL_desk_89 : decode cL_desk 89 = .ok (.imul, 1) := by decide +kernel
theorem dL_desk_90 : decode cL_desk 90 = .ok (.iadd, 1) := by decide +kernel
theorem dL_desk_91 : decode cL_desk 91 = .ok (.iconst 2, 1) := by decide +kernel
theorem dL_desk_92 : decode cL_desk 92 = .ok (.iadd, 1) := by decide +kernel
theorem dL_desk_93 : decode cL_desk 93 = .ok (.ldc 134, 2) := by decide +kernel
theorem dL_desk_95 : decode cL_desk 95 = .ok (.invokestatic 135, 3) := by decide +kernel
theorem dL_desk_98 : decode cL_desk 98 = .ok (.istore 10, 2) := by decide +kernel
theorem dL_desk_100 : decode cL_desk 100 = .ok (.iload 8, 2) := by decide +kernel
theorem dL_desk_102 : decode cL_desk 102 = .ok (.iconst 5, 1) := by decide +kernel
theorem dL_desk_103 : decode cL_desk 103 = .ok (.if_icmp .ge 7, 3) := by decide +kernel
theorem dL_desk_106 : decode cL_desk 106 = .ok (.iconst 0, 1) := by decide +kernel
theorem dL_desk_107 : decode cL_desk 107 = .ok (.goto 49, 3) := by decide +kernel
theorem dL_desk_110 : decode cL_desk 110 = .ok (.iload 8, 2) := by decide +kernel
theorem dL_desk_112 : decode cL_desk 112 = .ok (.bipush 8, 2) := by decide +kernel
theorem dL_desk_114 : decode cL_desk 114 = .ok (.if_icmp .ge 7, 3) := by decide +kernel
theorem dL_desk_117 : decode cL_desk 117 = .ok (.iconst 5, 1) := by decide +kernel
theorem dL_desk_118 : decode cL_desk 118 = .ok (.goto 38, 3) := by decide +kernel
theorem dL_desk_121 : decode cL_desk 121 = .ok (.iload 8, 2) := by decide +kernel
theorem dL_desk_123 : decode cL_desk 123 = .ok (.bipush 14, 2) := by decide +kernel
theorem dL_desk_125 : decode cL_desk 125 = .ok (.if_icmp .ge 7, 3) := by decide +kernel
theorem dL_desk_128 : decode cL_desk 128 = .ok (.iconst 3, 1) := by decide +kernel
theorem dL_desk_129 : decode cL_desk 129 = .ok (.goto 27, 3) := by decide +kernel
theorem dL_desk_132 : decode cL_desk 132 = .ok (.iload 8, 2) := by decide +kernel
theorem dL_desk_134 : decode cL_desk 134 = .ok (.bipush 16, 2) := by decide +kernel
theorem dL_desk_136 : decode cL_desk 136 = .ok (.if_icmp .ge 8, 3) := by decide +kernel
theorem dL_desk_139 : decode cL_desk 139 = .ok (.bipush 8, 2) := by decide +kernel
theorem dL_desk_141 : decode cL_desk 141 = .ok (.goto 15, 3) := by decide +kernel
theorem dL_desk_144 : decode cL_desk 144 = .ok (.aload_n 0, 1) := by decide +kernel
theorem dL_desk_145 : decode cL_desk 145 = .ok (.iload_n 1, 1) := by decide +kernel
theorem dL_desk_146 : decode cL_desk 146 = .ok (.iconst 3, 1) := by decide +kernel
theorem dL_desk_147 : decode cL_desk 147 = .ok (.iload 8, 2) := by decide +kernel
theorem dL_desk_149 : decode cL_desk 149 = .ok (.imul, 1) := by decide +kernel
theorem dL_desk_150 : decode cL_desk 150 = .ok (.iadd, 1) := by decide +kernel
theorem dL_desk_151 : decode cL_desk 151 = .ok (.bipush 20, 2) := by decide +kernel
theorem dL_desk_153 : decode cL_desk 153 = .ok (.invokestatic 135, 3) := by decide +kernel
theorem dL_desk_156 : decode cL_desk 156 = .ok (.istore 11, 2) := by decide +kernel
theorem dL_desk_158 : decode cL_desk 158 = .ok (.aload_n 2, 1) := by decide +kernel
theorem dL_desk_159 : decode cL_desk 159 = .ok (.iload 11, 2) := by decide +kernel
theorem dL_desk_161 : decode cL_desk 161 = .ok (.iload 9, 2) := by decide +kernel
theorem dL_desk_163 : decode cL_desk 163 = .ok (.iload 10, 2) := by decide +kernel
theorem dL_desk_165 : decode cL_desk 165 = .ok (.aload_n 3, 1) := by decide +kernel
theorem dL_desk_166 : decode cL_desk 166 = .ok (.aload 4, 2) := by decide +kernel
theorem dL_desk_168 : decode cL_desk 168 = .ok (.aload 5, 2) := by decide +kernel
theorem dL_desk_170 : decode cL_desk 170 = .ok (.aload 6, 2) := by decide +kernel
theorem dL_desk_172 : decode cL_desk 172 = .ok (.aload 7, 2) := by decide +kernel
theorem dL_desk_174 : decode cL_desk 174 = .ok (.invokestatic 139, 3) := by decide +kernel
theorem dL_desk_177 : decode cL_desk 177 = .ok (.ifCond .eq 19, 3) := by decide +kernel
theorem dL_desk_180 : decode cL_desk 180 = .ok (.aload_n 2, 1) := by decide +kernel
theorem dL_desk_181 : decode cL_desk 181 = .ok (.aload_n 3, 1) := by decide +kernel
theorem dL_desk_182 : decode cL_desk 182 = .ok (.aload 4, 2) := by decide +kernel
theorem dL_desk_184 : decode cL_desk 184 = .ok (.aload 6, 2) := by decide +kernel
theorem dL_desk_186 : decode cL_desk 186 = .ok (.aload 7, 2) := by decide +kernel
theorem dL_desk_188 : decode cL_desk 188 = .ok (.iconst 0, 1) := by decide +kernel
theorem dL_desk_189 : decode cL_desk 189 = .ok (.laload, 1) := by decide +kernel
theorem dL_desk_190 : decode cL_desk 190 = .ok (.invokestatic 143, 3) := by decide +kernel
theorem dL_desk_193 : decode cL_desk 193 = .ok (.ifCond .ne 5, 3) := by decide +kernel
theorem dL_desk_196 : decode cL_desk 196 = .ok (.iconst 0, 1) := by decide +kernel
theorem dL_desk_197 : decode cL_desk 197 = .ok (.ireturn, 1) := by decide +kernel
theorem dL_desk_198 : decode cL_desk 198 = .ok (.iinc 8 1, 3) := by decide +kernel
theorem dL_desk_201 : decode cL_desk 201 = .ok (.goto (-140), 3) := by decide +kernel
theorem dL_desk_204 : decode cL_desk 204 = .ok (.iconst 1, 1) := by decide +kernel
theorem dL_desk_205 : decode cL_desk 205 = .ok (.ireturn, 1) := by decide +kernel
set_option maxRecDepth 20000 in
theorem ggL_law_L_desk_c : GoodIn wsL_law [Cond.code yL_desk cL_desk 12 (some .boolean)] := goodIn_r _ [3] (by decide +kernel) (by decide +kernel)
set_option maxRecDepth 20000 in
theorem ggL_law_L_desk_r1 : GoodIn wsL_law wsL_desk_r1 := goodIn_r _ [4, 5, 6, 7, 8, 9, 10, 11, 12, 13, 14, 15, 16, 17, 18, 19, 20, 21, 22, 23, 24, 25, 26, 27] (by decide +kernel) (by decide +kernel)
set_option maxRecDepth 20000 in
theorem ggL_law_L_desk_r2 : GoodIn wsL_law wsL_desk_r2 := goodIn_r _ [28, 29, 30, 31, 32, 33, 34, 35, 36, 37, 38, 39, 40, 41, 2, 42, 43, 44, 45, 46, 47, 48, 49, 50] (by decide +kernel) (by decide +kernel)
set_option maxRecDepth 20000 in
theorem ggL_law_L_desk_r3 : GoodIn wsL_law wsL_desk_r3 := goodIn_r _ [51, 52, 53, 54, 55, 56, 57, 58, 59, 60, 61, 62, 63, 64, 65, 66, 67, 68, 69, 70, 71, 72, 73, 74] (by decide +kernel) (by decide +kernel)
set_option maxRecDepth 20000 in
theorem ggL_law_L_desk_r4 : GoodIn wsL_law wsL_desk_r4 := goodIn_r _ [75, 76, 77, 78, 79, 80, 81, 82, 83, 84, 85, 86, 87, 88, 89, 90, 91, 92, 93, 94, 95, 96, 97, 98] (by decide +kernel) (by decide +kernel)
set_option maxRecDepth 20000 in
theorem ggL_law_L_desk_r5 : GoodIn wsL_law wsL_desk_r5 := goodIn_r _ [99, 100, 101, 102, 103, 104, 105, 106, 107, 108, 109, 110, 111, 112, 113, 114, 115, 116, 117, 118, 119, 120, 121, 122] (by decide +kernel) (by decide +kernel)
set_option maxRecDepth 20000 in
theorem ggL_law_L_desk_r6 : GoodIn wsL_law wsL_desk_r6 := goodIn_r _ [123, 124, 125, 126, 127, 128, 129, 130, 131, 132, 133, 134, 135, 136, 137, 138, 139, 140, 141, 142, 143, 144, 145, 146] (by decide +kernel) (by decide +kernel)
set_option maxRecDepth 20000 in
theorem ggL_law_L_desk_r7 : GoodIn wsL_law wsL_desk_r7 := goodIn_r _ [147, 148, 149, 150, 151, 152, 153, 154, 155, 156, 157, 158, 159, 160, 161, 162, 163, 164, 165, 166, 167, 168, 169, 170] (by decide +kernel) (by decide +kernel)
set_option maxRecDepth 20000 in
theorem ggL_law_L_desk_r8 : GoodIn wsL_law wsL_desk_r8 := goodIn_r _ [171, 172, 173, 174, 175, 176, 177, 178, 179, 180, 181, 182, 183, 184, 185, 186, 187, 188, 189, 190, 191, 192, 193, 194] (by decide +kernel) (by decide +kernel)
set_option maxRecDepth 20000 in
theorem ggL_law_L_desk_r9 : GoodIn wsL_law wsL_desk_r9 := goodIn_r _ [195, 196, 197, 198, 199, 200, 201, 202, 203, 204, 205, 206, 207, 208, 209, 210, 211, 212, 213, 214, 215, 216, 217, 218] (by decide +kernel) (by decide +kernel)
set_option maxRecDepth 20000 in
theorem ggL_law_L_desk_r10 : GoodIn wsL_law wsL_desk_r10 := goodIn_r _ [219, 220, 221, 222, 223, 224, 225, 226, 227, 228, 229, 230, 231, 232, 233, 234, 235, 236, 237, 238, 239, 240, 241, 242] (by decide +kernel) (by decide +kernel)
set_option maxRecDepth 20000 in
theorem ggL_law_L_desk_r11 : GoodIn wsL_law wsL_desk_r11 := goodIn_r _ [243, 244, 245, 246, 247, 248, 249, 250, 251, 252, 253, 254, 255, 256, 257, 258, 259, 260, 261, 262, 263, 264, 265, 266] (by decide +kernel) (by decide +kernel)
set_option maxRecDepth 20000 in
theorem ggL_law_L_desk_r12 : GoodIn wsL_law wsL_desk_r12 := goodIn_r _ [267, 268, 269, 270, 271, 272, 273, 274, 275, 276, 277, 278, 279, 280, 281, 282, 283, 284, 285, 286, 287, 288, 289, 290] (by decide +kernel) (by decide +kernel)
set_option maxRecDepth 20000 in
theorem ggL_law_L_desk_r13 : GoodIn wsL_law wsL_desk_r13 := goodIn_r _ [291, 292, 293, 294, 295, 296, 297, 298, 299, 300, 301, 302, 303, 304, 305, 306, 307, 308, 309, 310, 311, 312, 313, 314] (by decide +kernel) (by decide +kernel)
set_option maxRecDepth 20000 in
theorem ggL_law_L_desk_r14 : GoodIn wsL_law wsL_desk_r14 := goodIn_r _ [315, 316, 317, 318, 319, 320, 321, 322, 323, 324, 325, 326, 327, 328, 329, 330, 331, 332, 333, 334, 335, 336, 337, 338] (by decide +kernel) (by decide +kernel)
set_option maxRecDepth 20000 in
theorem ggL_law_L_desk_r15 : GoodIn wsL_law wsL_desk_r15 := goodIn_r _ [339, 340, 341, 342, 343, 344, 345, 346, 347, 348, 349, 350, 351, 352, 353, 354, 355, 356, 357, 358, 359, 360, 361, 362] (by decide +kernel) (by decide +kernel)
set_option maxRecDepth 20000 in
theorem ggL_law_L_desk_r16 : GoodIn wsL_law wsL_desk_r16 := goodIn_r _ [363, 364, 365, 366, 367, 368, 369, 370, 371, 372, 373, 374, 375, 376, 377, 378, 379, 380, 381, 382, 383, 384, 385, 386] (by decide +kernel) (by decide +kernel)
set_option maxRecDepth 20000 in
theorem ggL_law_L_desk_r17 : GoodIn wsL_law wsL_desk_r17 := goodIn_r _ [387, 388, 389, 390, 391, 392, 393, 394, 395, 396, 397, 398, 399, 400, 401, 402] (by decide +kernel) (by decide +kernel)
set_option maxRecDepth 20000 in
theorem ggL_law_L_desk_wsX40 : GoodIn wsL_law wsX40 := goodIn_r _ [403, 404, 405, 406, 407, 408] (by decide +kernel) (by decide +kernel)
set_option maxRecDepth 20000 in
theorem ggL_law_L_desk_wsJx4a65c0 : GoodIn wsL_law wsJx4a65c0 := goodIn_r _ [409, 410, 411] (by decide +kernel) (by decide +kernel)
set_option maxRecDepth 20000 in
theorem ggL_law_L_desk_wsX10 : GoodIn wsL_law wsX10 := goodIn_r _ [412, 413, 414, 415, 416, 417] (by decide +kernel) (by decide +kernel)
set_option maxRecDepth 20000 in
theorem ggL_law_L_desk_wsX00 : GoodIn wsL_law wsX00 := goodIn_r _ [418, 419, 420] (by decide +kernel) (by decide +kernel)
set_option maxRecDepth 20000 in
theorem ggL_law_L_desk_wsX20 : GoodIn wsL_law wsX20 := goodIn_r _ [421, 422, 423] (by decide +kernel) (by decide +kernel)
set_option maxRecDepth 20000 in
theorem ggL_law_L_desk_wsX30 : GoodIn wsL_law wsX30 := goodIn_r _ [424, 425, 426] (by decide +kernel) (by decide +kernel)
theorem ggL_law_L_desk : GoodIn wsL_law wsL_desk := goodIn_cons9 ggL_law_L_desk_c (goodIn_app (goodIn_app (goodIn_app (goodIn_app (goodIn_app (goodIn_app (goodIn_app (goodIn_app (goodIn_app (goodIn_app ggL_law_L_desk_r1 (goodIn_app ggL_law_L_desk_r2 (goodIn_app ggL_law_L_desk_r3 (goodIn_app ggL_law_L_desk_r4 (goodIn_app ggL_law_L_desk_r5 (goodIn_app ggL_law_L_desk_r6 (goodIn_app ggL_law_L_desk_r7 (goodIn_app ggL_law_L_desk_r8 (goodIn_app ggL_law_L_desk_r9 (goodIn_app ggL_law_L_desk_r10 (goodIn_app ggL_law_L_desk_r11 (goodIn_app ggL_law_L_desk_r12 (goodIn_app ggL_law_L_desk_r13 (goodIn_app ggL_law_L_desk_r14 (goodIn_app ggL_law_L_desk_r15 (goodIn_app ggL_law_L_desk_r16 ggL_law_L_desk_r17)))))))))))))))) ggL_law_L_desk_wsX40) ggL_law_L_desk_wsJx4a65c0) ggL_law_L_desk_wsX10) ggL_law_L_desk_wsX00) ggL_law_L_desk_wsX20) ggL_law_L_desk_wsX30) (goodIn_sub (fun _ h => List.mem_append_left _ (List.mem_append_left _ (List.mem_append_right _ h))) (by decide +kernel))) (goodIn_sub (fun _ h => List.mem_append_left _ (List.mem_append_right _ h)) (by decide +kernel))) (goodIn_sub (fun _ h => List.mem_append_right _ h) (by decide +kernel)))
set_option maxRecDepth 20000 in
theorem gL_law_L_desk : GoodIn wsL_law (va_wsS RL 147 yL_desk wsL_desk) := goodIn_app (goodIn_of _ (by decide +kernel)) ggL_law_L_desk
theorem dL_law_0 : decode cL_law 0 = .ok (.aload_n 0, 1) := by decide +kernel
theorem dL_law_1 : decode cL_law 1 = .ok (.iconst 0, 1) := by decide +kernel
theorem dL_law_2 : decode cL_law 2 = .ok (.invokestatic 147, 3) := by decide +kernel
theorem dL_law_5 : decode cL_law 5 = .ok (.ifCond .eq 27, 3) := by decide +kernel
theorem dL_law_8 : decode cL_law 8 = .ok (.aload_n 0, 1) := by decide +kernel
theorem dL_law_9 : decode cL_law 9 = .ok (.sipush 185, 3) := by decide +kernel
theorem dL_law_12 : decode cL_law 12 = .ok (.invokestatic 147, 3) := by decide +kernel
theorem dL_law_15 : decode cL_law 15 = .ok (.ifCond .eq 17, 3) := by decide +kernel
theorem dL_law_18 : decode cL_law 18 = .ok (.aload_n 0, 1) := by decide +kernel
theorem dL_law_19 : decode cL_law 19 = .ok (.sipush 370, 3) := by decide +kernel
theorem dL_law_22 : decode cL_law 22 = .ok (.invokestatic 147, 3) := by decide +kernel
theorem dL_law_25 : decode cL_law 25 = .ok (.ifCond .eq 7, 3) := by decide +kernel
theorem dL_law_28 : decode cL_law 28 = .ok (.iconst 1, 1) := by decide +kernel
theorem dL_law_29 : decode cL_law 29 = .ok (.goto 4, 3) := by decide +kernel
theorem dL_law_32 : decode cL_law 32 = .ok (.iconst 0, 1) := by decide +kernel
theorem dL_law_33 : decode cL_law 33 = .ok (.ireturn, 1) := by decide +kernel
abbrev vwCl : List vw_C := [(RJx4a65c, TJx4a65c, 3), (RX0, TX0, 3), (RX1, TX1, 6), (RX2, TX2, 3), (RX3, TX3, 3), (RX4, TX4, 6)]
