theorem dX11_init_0 : decode cX11_init 0 = .ok (.aload_n 0, 1) := by decide +kernel
theorem dX11_init_1 : decode cX11_init 1 = .ok (.invokespecial 1, 3) := by decide +kernel
theorem dX11_init_4 : decode cX11_init 4 = .ok (.aload_n 0, 1) := by decide +kernel
theorem dX11_init_5 : decode cX11_init 5 = .ok (.sipush 275, 3) := by decide +kernel
theorem dX11_init_8 : decode cX11_init 8 = .ok (.newarray .int, 2) := by decide +kernel
theorem dX11_init_10 : decode cX11_init 10 = .ok (.putfield 7, 3) := by decide +kernel
theorem dX11_init_13 : decode cX11_init 13 = .ok (.aload_n 0, 1) := by decide +kernel
theorem dX11_init_14 : decode cX11_init 14 = .ok (.sipush 2560, 3) := by decide +kernel
theorem dX11_init_17 : decode cX11_init 17 = .ok (.newarray .int, 2) := by decide +kernel
theorem dX11_init_19 : decode cX11_init 19 = .ok (.putfield 13, 3) := by decide +kernel
theorem dX11_init_22 : decode cX11_init 22 = .ok (.aload_n 0, 1) := by decide +kernel
theorem dX11_init_23 : decode cX11_init 23 = .ok (.sipush 275, 3) := by decide +kernel
theorem dX11_init_26 : decode cX11_init 26 = .ok (.newarray .int, 2) := by decide +kernel
theorem dX11_init_28 : decode cX11_init 28 = .ok (.putfield 16, 3) := by decide +kernel
theorem dX11_init_31 : decode cX11_init 31 = .ok (.aload_n 0, 1) := by decide +kernel
theorem dX11_init_32 : decode cX11_init 32 = .ok (.sipush 2560, 3) := by decide +kernel
theorem dX11_init_35 : decode cX11_init 35 = .ok (.newarray .int, 2) := by decide +kernel
theorem dX11_init_37 : decode cX11_init 37 = .ok (.putfield 19, 3) := by decide +kernel
theorem dX11_init_40 : decode cX11_init 40 = .ok (.aload_n 0, 1) := by decide +kernel
theorem dX11_init_41 : decode cX11_init 41 = .ok (.sipush 2560, 3) := by decide +kernel
theorem dX11_init_44 : decode cX11_init 44 = .ok (.newarray .int, 2) := by decide +kernel
theorem dX11_init_46 : decode cX11_init 46 = .ok (.putfield 22, 3) := by decide +kernel
theorem dX11_init_49 : decode cX11_init 49 = .ok (.aload_n 0, 1) := by decide +kernel
theorem dX11_init_50 : decode cX11_init 50 = .ok (.iconst 5, 1) := by decide +kernel
theorem dX11_init_51 : decode cX11_init 51 = .ok (.newarray .int, 2) := by decide +kernel
theorem dX11_init_53 : decode cX11_init 53 = .ok (.putfield 25, 3) := by decide +kernel
theorem dX11_init_56 : decode cX11_init 56 = .ok (.aload_n 0, 1) := by decide +kernel
theorem dX11_init_57 : decode cX11_init 57 = .ok (.sipush 550, 3) := by decide +kernel
theorem dX11_init_60 : decode cX11_init 60 = .ok (.newarray .int, 2) := by decide +kernel
theorem dX11_init_62 : decode cX11_init 62 = .ok (.putfield 28, 3) := by decide +kernel
theorem dX11_init_65 : decode cX11_init 65 = .ok (.aload_n 0, 1) := by decide +kernel
theorem dX11_init_66 : decode cX11_init 66 = .ok (.sipush 5120, 3) := by decide +kernel
theorem dX11_init_69 : decode cX11_init 69 = .ok (.newarray .int, 2) := by decide +kernel
theorem dX11_init_71 : decode cX11_init 71 = .ok (.putfield 31, 3) := by decide +kernel
theorem dX11_init_74 : decode cX11_init 74 = .ok (.aload_n 0, 1) := by decide +kernel
theorem dX11_init_75 : decode cX11_init 75 = .ok (.bipush 10, 2) := by decide +kernel
theorem dX11_init_77 : decode cX11_init 77 = .ok (.newarray .int, 2) := by decide +kernel
theorem dX11_init_79 : decode cX11_init 79 = .ok (.putfield 34, 3) := by decide +kernel
theorem dX11_init_82 : decode cX11_init 82 = .ok (.aload_n 0, 1) := by decide +kernel
theorem dX11_init_83 : decode cX11_init 83 = .ok (.bipush 10, 2) := by decide +kernel
theorem dX11_init_85 : decode cX11_init 85 = .ok (.newarray .int, 2) := by decide +kernel
theorem dX11_init_87 : decode cX11_init 87 = .ok (.putfield 37, 3) := by decide +kernel
theorem dX11_init_90 : decode cX11_init 90 = .ok (.aload_n 0, 1) := by decide +kernel
theorem dX11_init_91 : decode cX11_init 91 = .ok (.iconst 5, 1) := by decide +kernel
theorem dX11_init_92 : decode cX11_init 92 = .ok (.newarray .int, 2) := by decide +kernel
theorem dX11_init_94 : decode cX11_init 94 = .ok (.putfield 40, 3) := by decide +kernel
theorem dX11_init_97 : decode cX11_init 97 = .ok (.aload_n 0, 1) := by decide +kernel
theorem dX11_init_98 : decode cX11_init 98 = .ok (.sipush 360, 3) := by decide +kernel
theorem dX11_init_101 : decode cX11_init 101 = .ok (.newarray .int, 2) := by decide +kernel
theorem dX11_init_103 : decode cX11_init 103 = .ok (.putfield 43, 3) := by decide +kernel
theorem dX11_init_106 : decode cX11_init 106 = .ok (.aload_n 0, 1) := by decide +kernel
theorem dX11_init_107 : decode cX11_init 107 = .ok (.iconst 5, 1) := by decide +kernel
theorem dX11_init_108 : decode cX11_init 108 = .ok (.newarray .int, 2) := by decide +kernel
theorem dX11_init_110 : decode cX11_init 110 = .ok (.putfield 46, 3) := by decide +kernel
theorem dX11_init_113 : decode cX11_init 113 = .ok (.aload_n 0, 1) := by decide +kernel
theorem dX11_init_114 : decode cX11_init 114 = .ok (.iconst 5, 1) := by decide +kernel
theorem dX11_init_115 : decode cX11_init 115 = .ok (.newarray .int, 2) := by decide +kernel
theorem dX11_init_117 : decode cX11_init 117 = .ok (.putfield 49, 3) := by decide +kernel
theorem dX11_init_120 : decode cX11_init 120 = .ok (.aload_n 0, 1) := by decide +kernel
theorem dX11_init_121 : decode cX11_init 121 = .ok (.iconst 5, 1) := by decide +kernel
theorem dX11_init_122 : decode cX11_init 122 = .ok (.newarray .int, 2) := by decide +kernel
theorem dX11_init_124 : decode cX11_init 124 = .ok (.putfield 52, 3) := by decide +kernel
theorem dX11_init_127 : decode cX11_init 127 = .ok (.aload_n 0, 1) := by decide +kernel
theorem dX11_init_128 : decode cX11_init 128 = .ok (.iconst 5, 1) := by decide +kernel
theorem dX11_init_129 : decode cX11_init 129 = .ok (.newarray .boolean, 2) := by decide +kernel
theorem dX11_init_131 : decode cX11_init 131 = .ok (.putfield 55, 3) := by decide +kernel
theorem dX11_init_134 : decode cX11_init 134 = .ok (.aload_n 0, 1) := by decide +kernel
theorem dX11_init_135 : decode cX11_init 135 = .ok (.iconst 5, 1) := by decide +kernel
theorem dX11_init_136 : decode cX11_init 136 = .ok (.newarray .boolean, 2) := by decide +kernel
theorem dX11_init_138 : decode cX11_init 138 = .ok (.putfield 59, 3) := by decide +kernel
theorem dX11_init_141 : decode cX11_init 141 = .ok (.aload_n 0, 1) := by decide +kernel
theorem dX11_init_142 : decode cX11_init 142 = .ok (.iconst 5, 1) := by decide +kernel
theorem dX11_init_143 : decode cX11_init 143 = .ok (.newarray .boolean, 2) := by decide +kernel
theorem dX11_init_145 : decode cX11_init 145 = .ok (.putfield 62, 3) := by decide +kernel
theorem dX11_init_148 : decode cX11_init 148 = .ok (.aload_n 0, 1) := by decide +kernel
theorem dX11_init_149 : decode cX11_init 149 = .ok (.iconst 5, 1) := by decide +kernel
theorem dX11_init_150 : decode cX11_init 150 = .ok (.newarray .int, 2) := by decide +kernel
theorem dX11_init_152 : decode cX11_init 152 = .ok (.putfield 65, 3) := by decide +kernel
theorem dX11_init_155 : decode cX11_init 155 = .ok (.aload_n 0, 1) := by decide +kernel
theorem dX11_init_156 : decode cX11_init 156 = .ok (.iconst 5, 1) := by decide +kernel
theorem dX11_init_157 : decode cX11_init 157 = .ok (.newarray .int, 2) := by decide +kernel
theorem dX11_init_159 : decode cX11_init 159 = .ok (.putfield 68, 3) := by decide +kernel
theorem dX11_init_162 : decode cX11_init 162 = .ok (.aload_n 0, 1) := by decide +kernel
theorem dX11_init_163 : decode cX11_init 163 = .ok (.iconst 5, 1) := by decide +kernel
theorem dX11_init_164 : decode cX11_init 164 = .ok (.newarray .int, 2) := by decide +kernel
theorem dX11_init_166 : decode cX11_init 166 = .ok (.putfield 71, 3) := by decide +kernel
theorem dX11_init_169 : decode cX11_init 169 = .ok (.aload_n 0, 1) := by decide +kernel
theorem dX11_init_170 : decode cX11_init 170 = .ok (.iconst 5, 1) := by decide +kernel
theorem dX11_init_171 : decode cX11_init 171 = .ok (.newarray .int, 2) := by decide +kernel
theorem dX11_init_173 : decode cX11_init 173 = .ok (.putfield 74, 3) := by decide +kernel
theorem dX11_init_176 : decode cX11_init 176 = .ok (.aload_n 0, 1) := by decide +kernel
theorem dX11_init_177 : decode cX11_init 177 = .ok (.iconst 5, 1) := by decide +kernel
theorem dX11_init_178 : decode cX11_init 178 = .ok (.newarray .int, 2) := by decide +kernel
theorem dX11_init_180 : decode cX11_init 180 = .ok (.putfield 77, 3) := by decide +kernel
theorem dX11_init_183 : decode cX11_init 183 = .ok (.aload_n 0, 1) := by decide +kernel
theorem dX11_init_184 : decode cX11_init 184 = .ok (.bipush 30, 2) := by decide +kernel
theorem dX11_init_186 : decode cX11_init 186 = .ok (.newarray .int, 2) := by decide +kernel
theorem dX11_init_188 : decode cX11_init 188 = .ok (.putfield 80, 3) := by decide +kernel
theorem dX11_init_191 : decode cX11_init 191 = .ok (.aload_n 0, 1) := by decide +kernel
theorem dX11_init_192 : decode cX11_init 192 = .ok (.bipush 40, 2) := by decide +kernel
theorem dX11_init_194 : decode cX11_init 194 = .ok (.newarray .int, 2) := by decide +kernel
theorem dX11_init_196 : decode cX11_init 196 = .ok (.putfield 83, 3) := by decide +kernel
theorem dX11_init_199 : decode cX11_init 199 = .ok (.aload_n 0, 1) := by decide +kernel
theorem dX11_init_200 : decode cX11_init 200 = .ok (.bipush 40, 2) := by decide +kernel
theorem dX11_init_202 : decode cX11_init 202 = .ok (.newarray .int, 2) := by decide +kernel
theorem dX11_init_204 : decode cX11_init 204 = .ok (.putfield 86, 3) := by decide +kernel
theorem dX11_init_207 : decode cX11_init 207 = .ok (.aload_n 0, 1) := by decide +kernel
theorem dX11_init_208 : decode cX11_init 208 = .ok (.bipush 32, 2) := by decide +kernel
theorem dX11_init_210 : decode cX11_init 210 = .ok (.newarray .int, 2) := by decide +kernel
theorem dX11_init_212 : decode cX11_init 212 = .ok (.putfield 89, 3) := by decide +kernel
theorem dX11_init_215 : decode cX11_init 215 = .ok (.aload_n 0, 1) := by decide +kernel
theorem dX11_init_216 : decode cX11_init 216 = .ok (.iconst 5, 1) := by decide +kernel
theorem dX11_init_217 : decode cX11_init 217 = .ok (.newarray .boolean, 2) := by decide +kernel
theorem dX11_init_219 : decode cX11_init 219 = .ok (.putfield 92, 3) := by decide +kernel
theorem dX11_init_222 : decode cX11_init 222 = .ok (.aload_n 0, 1) := by decide +kernel
theorem dX11_init_223 : decode cX11_init 223 = .ok (.iconst 5, 1) := by decide +kernel
theorem dX11_init_224 : decode cX11_init 224 = .ok (.newarray .int, 2) := by decide +kernel
theorem dX11_init_226 : decode cX11_init 226 = .ok (.putfield 95, 3) := by decide +kernel
theorem dX11_init_229 : decode cX11_init 229 = .ok (.aload_n 0, 1) := by decide +kernel
theorem dX11_init_230 : decode cX11_init 230 = .ok (.iconst 5, 1) := by decide +kernel
theorem dX11_init_231 : decode cX11_init 231 = .ok (.newarray .int, 2) := by decide +kernel
theorem dX11_init_233 : decode cX11_init 233 = .ok (.putfield 98, 3) := by decide +kernel
theorem dX11_init_236 : decode cX11_init 236 = .ok (.aload_n 0, 1) := by decide +kernel
theorem dX11_init_237 : decode cX11_init 237 = .ok (.iconst 5, 1) := by decide +kernel
theorem dX11_init_238 : decode cX11_init 238 = .ok (.newarray .boolean, 2) := by decide +kernel
theorem dX11_init_240 : decode cX11_init 240 = .ok (.putfield 101, 3) := by decide +kernel
theorem dX11_init_243 : decode cX11_init 243 = .ok (.aload_n 0, 1) := by decide +kernel
theorem dX11_init_244 : decode cX11_init 244 = .ok (.sipush 15000, 3) := by decide +kernel
theorem dX11_init_247 : decode cX11_init 247 = .ok (.newarray .int, 2) := by decide +kernel
theorem dX11_init_249 : decode cX11_init 249 = .ok (.putfield 104, 3) := by decide +kernel
theorem dX11_init_252 : decode cX11_init 252 = .ok (.aload_n 0, 1) := by decide +kernel
theorem dX11_init_253 : decode cX11_init 253 = .ok (.iconst 5, 1) := by decide +kernel
theorem dX11_init_254 : decode cX11_init 254 = .ok (.newarray .int, 2) := by decide +kernel
theorem dX11_init_256 : decode cX11_init 256 = .ok (.putfield 107, 3) := by decide +kernel
theorem dX11_init_259 : decode cX11_init 259 = .ok (.aload_n 0, 1) := by decide +kernel
theorem dX11_init_260 : decode cX11_init 260 = .ok (.sipush 15000, 3) := by decide +kernel
theorem dX11_init_263 : decode cX11_init 263 = .ok (.newarray .int, 2) := by decide +kernel
theorem dX11_init_265 : decode cX11_init 265 = .ok (.putfield 110, 3) := by decide +kernel
theorem dX11_init_268 : decode cX11_init 268 = .ok (.aload_n 0, 1) := by decide +kernel
theorem dX11_init_269 : decode cX11_init 269 = .ok (.iconst 5, 1) := by decide +kernel
theorem dX11_init_270 : decode cX11_init 270 = .ok (.newarray .int, 2) := by decide +kernel
theorem dX11_init_272 : decode cX11_init 272 = .ok (.putfield 113, 3) := by decide +kernel
theorem dX11_init_275 : decode cX11_init 275 = .ok (.aload_n 0, 1) := by decide +kernel
theorem dX11_init_276 : decode cX11_init 276 = .ok (.iconst 2, 1) := by decide +kernel
theorem dX11_init_277 : decode cX11_init 277 = .ok (.newarray .boolean, 2) := by decide +kernel
theorem dX11_init_279 : decode cX11_init 279 = .ok (.putfield 116, 3) := by decide +kernel
theorem dX11_init_282 : decode cX11_init 282 = .ok (.aload_n 0, 1) := by decide +kernel
theorem dX11_init_283 : decode cX11_init 283 = .ok (.iconst 2, 1) := by decide +kernel
theorem dX11_init_284 : decode cX11_init 284 = .ok (.newarray .int, 2) := by decide +kernel
theorem dX11_init_286 : decode cX11_init 286 = .ok (.dup, 1) := by decide +kernel
theorem dX11_init_287 : decode cX11_init 287 = .ok (.iconst 0, 1) := by decide +kernel
theorem dX11_init_288 : decode cX11_init 288 = .ok (.iconst (-1), 1) := by decide +kernel
theorem dX11_init_289 : decode cX11_init 289 = .ok (.iastore, 1) := by decide +kernel
theorem dX11_init_290 : decode cX11_init 290 = .ok (.dup, 1) := by decide +kernel
theorem dX11_init_291 : decode cX11_init 291 = .ok (.iconst 1, 1) := by decide +kernel
theorem dX11_init_292 : decode cX11_init 292 = .ok (.iconst (-1), 1) := by decide +kernel
theorem dX11_init_293 : decode cX11_init 293 = .ok (.iastore, 1) := by decide +kernel
theorem dX11_init_294 : decode cX11_init 294 = .ok (.putfield 119, 3) := by decide +kernel
theorem dX11_init_297 : decode cX11_init 297 = .ok (.aload_n 0, 1) := by decide +kernel
theorem dX11_init_298 : decode cX11_init 298 = .ok (.iconst 2, 1) := by decide +kernel
theorem dX11_init_299 : decode cX11_init 299 = .ok (.newarray .int, 2) := by decide +kernel
theorem dX11_init_301 : decode cX11_init 301 = .ok (.putfield 122, 3) := by decide +kernel
theorem dX11_init_304 : decode cX11_init 304 = .ok (.return_, 1) := by decide +kernel
theorem dX11_thrown_0 : decode cX11_thrown 0 = .ok (.aload_n 0, 1) := by decide +kernel
theorem dX11_thrown_1 : decode cX11_thrown 1 = .ok (.getfield 125, 3) := by decide +kernel
theorem dX11_thrown_4 : decode cX11_thrown 4 = .ok (.ireturn, 1) := by decide +kernel
theorem dX11_in_0 : decode cX11_in 0 = .ok (.iload_n 0, 1) := by decide +kernel
theorem dX11_in_1 : decode cX11_in 1 = .ok (.iload_n 1, 1) := by decide +kernel
theorem dX11_in_2 : decode cX11_in 2 = .ok (.if_icmp .lt 12, 3) := by decide +kernel
theorem dX11_in_5 : decode cX11_in 5 = .ok (.iload_n 0, 1) := by decide +kernel
theorem dX11_in_6 : decode cX11_in 6 = .ok (.iload_n 2, 1) := by decide +kernel
theorem dX11_in_7 : decode cX11_in 7 = .ok (.if_icmp .gt 7, 3) := by decide +kernel
theorem dX11_in_10 : decode cX11_in 10 = .ok (.iconst 1, 1) := by decide +kernel
theorem dX11_in_11 : decode cX11_in 11 = .ok (.goto 4, 3) := by decide +kernel
theorem dX11_in_14 : decode cX11_in 14 = .ok (.iconst 0, 1) := by decide +kernel
theorem dX11_in_15 : decode cX11_in 15 = .ok (.ireturn, 1) := by decide +kernel
theorem dX11_isGuest_0 : decode cX11_isGuest 0 = .ok (.iload_n 1, 1) := by decide +kernel
theorem dX11_isGuest_1 : decode cX11_isGuest 1 = .ok (.iconst 0, 1) := by decide +kernel
theorem dX11_isGuest_2 : decode cX11_isGuest 2 = .ok (.aload_n 0, 1) := by decide +kernel
theorem dX11_isGuest_3 : decode cX11_isGuest 3 = .ok (.getfield 129, 3) := by decide +kernel
theorem dX11_isGuest_6 : decode cX11_isGuest 6 = .ok (.iconst 1, 1) := by decide +kernel
theorem dX11_isGuest_7 : decode cX11_isGuest 7 = .ok (.isub, 1) := by decide +kernel
theorem dX11_isGuest_8 : decode cX11_isGuest 8 = .ok (.invokestatic 132, 3) := by decide +kernel
theorem dX11_isGuest_11 : decode cX11_isGuest 11 = .ok (.ireturn, 1) := by decide +kernel
theorem dX11_refused_0 : decode cX11_refused 0 = .ok (.aload_n 0, 1) := by decide +kernel
theorem dX11_refused_1 : decode cX11_refused 1 = .ok (.iload_n 1, 1) := by decide +kernel
theorem dX11_refused_2 : decode cX11_refused 2 = .ok (.putfield 125, 3) := by decide +kernel
theorem dX11_refused_5 : decode cX11_refused 5 = .ok (.iload_n 1, 1) := by decide +kernel
theorem dX11_refused_6 : decode cX11_refused 6 = .ok (.ifCond .eq 7, 3) := by decide +kernel
theorem dX11_refused_9 : decode cX11_refused 9 = .ok (.iconst 1, 1) := by decide +kernel
theorem dX11_refused_10 : decode cX11_refused 10 = .ok (.goto 4, 3) := by decide +kernel
theorem dX11_refused_13 : decode cX11_refused 13 = .ok (.iconst 0, 1) := by decide +kernel
theorem dX11_refused_14 : decode cX11_refused 14 = .ok (.ireturn, 1) := by decide +kernel
theorem dX11_fine_0 : decode cX11_fine 0 = .ok (.aload_n 0, 1) := by decide +kernel
theorem dX11_fine_1 : decode cX11_fine 1 = .ok (.iconst 0, 1) := by decide +kernel
theorem dX11_fine_2 : decode cX11_fine 2 = .ok (.putfield 125, 3) := by decide +kernel
theorem dX11_fine_5 : decode cX11_fine 5 = .ok (.iload_n 1, 1) := by decide +kernel
theorem dX11_fine_6 : decode cX11_fine 6 = .ok (.ireturn, 1) := by decide +kernel
theorem dX11_rest_0 : decode cX11_rest 0 = .ok (.iload_n 0, 1) := by decide +kernel
theorem dX11_rest_1 : decode cX11_rest 1 = .ok (.sipush 10000, 3) := by decide +kernel
theorem dX11_rest_4 : decode cX11_rest 4 = .ok (.irem, 1) := by decide +kernel
theorem dX11_rest_5 : decode cX11_rest 5 = .ok (.sipush 10000, 3) := by decide +kernel
theorem dX11_rest_8 : decode cX11_rest 8 = .ok (.iadd, 1) := by decide +kernel
theorem dX11_rest_9 : decode cX11_rest 9 = .ok (.sipush 10000, 3) := by decide +kernel
theorem dX11_rest_12 : decode cX11_rest 12 = .ok (.irem, 1) := by decide +kernel
theorem dX11_rest_13 : decode cX11_rest 13 = .ok (.ireturn, 1) := by decide +kernel
theorem dX11_clock_0 : decode cX11_clock 0 = .ok (.aload_n 0, 1) := by decide +kernel
theorem dX11_clock_1 : decode cX11_clock 1 = .ok (.getfield 136, 3) := by decide +kernel
theorem dX11_clock_4 : decode cX11_clock 4 = .ok (.aload_n 0, 1) := by decide +kernel
theorem dX11_clock_5 : decode cX11_clock 5 = .ok (.getfield 71, 3) := by decide +kernel
theorem dX11_clock_8 : decode cX11_clock 8 = .ok (.iload_n 1, 1) := by decide +kernel
theorem dX11_clock_9 : decode cX11_clock 9 = .ok (.iaload, 1) := by decide +kernel
theorem dX11_clock_10 : decode cX11_clock 10 = .ok (.isub, 1) := by decide +kernel
theorem dX11_clock_11 : decode cX11_clock 11 = .ok (.aload_n 0, 1) := by decide +kernel
theorem dX11_clock_12 : decode cX11_clock 12 = .ok (.getfield 65, 3) := by decide +kernel
theorem dX11_clock_15 : decode cX11_clock 15 = .ok (.iload_n 1, 1) := by decide +kernel
theorem dX11_clock_16 : decode cX11_clock 16 = .ok (.iaload, 1) := by decide +kernel
theorem dX11_clock_17 : decode cX11_clock 17 = .ok (.imul, 1) := by decide +kernel
theorem dX11_clock_18 : decode cX11_clock 18 = .ok (.aload_n 0, 1) := by decide +kernel
theorem dX11_clock_19 : decode cX11_clock 19 = .ok (.getfield 68, 3) := by decide +kernel
theorem dX11_clock_22 : decode cX11_clock 22 = .ok (.iload_n 1, 1) := by decide +kernel
theorem dX11_clock_23 : decode cX11_clock 23 = .ok (.iaload, 1) := by decide +kernel
theorem dX11_clock_24 : decode cX11_clock 24 = .ok (.iadd, 1) := by decide +kernel
theorem dX11_clock_25 : decode cX11_clock 25 = .ok (.invokestatic 139, 3) := by decide +kernel
theorem dX11_clock_28 : decode cX11_clock 28 = .ok (.ireturn, 1) := by decide +kernel
theorem dX11_shift_0 : decode cX11_shift 0 = .ok (.aload_n 0, 1) := by decide +kernel
theorem dX11_shift_1 : decode cX11_shift 1 = .ok (.getfield 68, 3) := by decide +kernel
theorem dX11_shift_4 : decode cX11_shift 4 = .ok (.iload_n 1, 1) := by decide +kernel
theorem dX11_shift_5 : decode cX11_shift 5 = .ok (.iload_n 2, 1) := by decide +kernel
theorem dX11_shift_6 : decode cX11_shift 6 = .ok (.aload_n 0, 1) := by decide +kernel
theorem dX11_shift_7 : decode cX11_shift 7 = .ok (.getfield 136, 3) := by decide +kernel
theorem dX11_shift_10 : decode cX11_shift 10 = .ok (.aload_n 0, 1) := by decide +kernel
theorem dX11_shift_11 : decode cX11_shift 11 = .ok (.getfield 71, 3) := by decide +kernel
theorem dX11_shift_14 : decode cX11_shift 14 = .ok (.iload_n 1, 1) := by decide +kernel
theorem dX11_shift_15 : decode cX11_shift 15 = .ok (.iaload, 1) := by decide +kernel
theorem dX11_shift_16 : decode cX11_shift 16 = .ok (.isub, 1) := by decide +kernel
theorem dX11_shift_17 : decode cX11_shift 17 = .ok (.aload_n 0, 1) := by decide +kernel
theorem dX11_shift_18 : decode cX11_shift 18 = .ok (.getfield 65, 3) := by decide +kernel
theorem dX11_shift_21 : decode cX11_shift 21 = .ok (.iload_n 1, 1) := by decide +kernel
theorem dX11_shift_22 : decode cX11_shift 22 = .ok (.iaload, 1) := by decide +kernel
theorem dX11_shift_23 : decode cX11_shift 23 = .ok (.imul, 1) := by decide +kernel
theorem dX11_shift_24 : decode cX11_shift 24 = .ok (.isub, 1) := by decide +kernel
theorem dX11_shift_25 : decode cX11_shift 25 = .ok (.invokestatic 139, 3) := by decide +kernel
theorem dX11_shift_28 : decode cX11_shift 28 = .ok (.iastore, 1) := by decide +kernel
theorem dX11_shift_29 : decode cX11_shift 29 = .ok (.return_, 1) := by decide +kernel
theorem dX11_holders_0 : decode cX11_holders 0 = .ok (.iconst 0, 1) := by decide +kernel
theorem dX11_holders_1 : decode cX11_holders 1 = .ok (.istore_n 3, 1) := by decide +kernel
theorem dX11_holders_2 : decode cX11_holders 2 = .ok (.iconst 0, 1) := by decide +kernel
theorem dX11_holders_3 : decode cX11_holders 3 = .ok (.istore 4, 2) := by decide +kernel
theorem dX11_holders_5 : decode cX11_holders 5 = .ok (.iload 4, 2) := by decide +kernel
theorem dX11_holders_7 : decode cX11_holders 7 = .ok (.bipush 8, 2) := by decide +kernel
theorem dX11_holders_9 : decode cX11_holders 9 = .ok (.aload_n 0, 1) := by decide +kernel
theorem dX11_holders_10 : decode cX11_holders 10 = .ok (.getfield 129, 3) := by decide +kernel
theorem dX11_holders_13 : decode cX11_holders 13 = .ok (.imul, 1) := by decide +kernel
theorem dX11_holders_14 : decode cX11_holders 14 = .ok (.if_icmp .ge 42, 3) := by decide +kernel
theorem dX11_holders_17 : decode cX11_holders 17 = .ok (.iload_n 3, 1) := by decide +kernel
theorem dX11_holders_18 : decode cX11_holders 18 = .ok (.aload_n 0, 1) := by decide +kernel
theorem dX11_holders_19 : decode cX11_holders 19 = .ok (.getfield 49, 3) := by decide +kernel
theorem dX11_holders_22 : decode cX11_holders 22 = .ok (.iload 4, 2) := by decide +kernel
theorem dX11_holders_24 : decode cX11_holders 24 = .ok (.bipush 8, 2) := by decide +kernel
theorem dX11_holders_26 : decode cX11_holders 26 = .ok (.idiv, 1) := by decide +kernel
theorem dX11_holders_27 : decode cX11_holders 27 = .ok (.iaload, 1) := by decide +kernel
theorem dX11_holders_28 : decode cX11_holders 28 = .ok (.iload_n 1, 1) := by decide +kernel
theorem dX11_holders_29 : decode cX11_holders 29 = .ok (.if_icmp .ne 18, 3) := by decide +kernel
theorem dX11_holders_32 : decode cX11_holders 32 = .ok (.aload_n 0, 1) := by decide +kernel
theorem dX11_holders_33 : decode cX11_holders 33 = .ok (.getfield 86, 3) := by decide +kernel
theorem dX11_holders_36 : decode cX11_holders 36 = .ok (.iload 4, 2) := by decide +kernel
theorem dX11_holders_38 : decode cX11_holders 38 = .ok (.iaload, 1) := by decide +kernel
theorem dX11_holders_39 : decode cX11_holders 39 = .ok (.iload_n 2, 1) := by decide +kernel
theorem dX11_holders_40 : decode cX11_holders 40 = .ok (.if_icmp .ne 7, 3) := by decide +kernel
theorem dX11_holders_43 : decode cX11_holders 43 = .ok (.iconst 1, 1) := by decide +kernel
theorem dX11_holders_44 : decode cX11_holders 44 = .ok (.goto 4, 3) := by decide +kernel
theorem dX11_holders_47 : decode cX11_holders 47 = .ok (.iconst 0, 1) := by decide +kernel
theorem dX11_holders_48 : decode cX11_holders 48 = .ok (.iadd, 1) := by decide +kernel
theorem dX11_holders_49 : decode cX11_holders 49 = .ok (.istore_n 3, 1) := by decide +kernel
theorem dX11_holders_50 : decode cX11_holders 50 = .ok (.iinc 4 1, 3) := by decide +kernel
theorem dX11_holders_53 : decode cX11_holders 53 = .ok (.goto (-48), 3) := by decide +kernel
theorem dX11_holders_56 : decode cX11_holders 56 = .ok (.iload_n 3, 1) := by decide +kernel
theorem dX11_holders_57 : decode cX11_holders 57 = .ok (.ireturn, 1) := by decide +kernel
theorem dX11_pageIn_0 : decode cX11_pageIn 0 = .ok (.iconst (-1), 1) := by decide +kernel
theorem dX11_pageIn_1 : decode cX11_pageIn 1 = .ok (.istore_n 3, 1) := by decide +kernel
theorem dX11_pageIn_2 : decode cX11_pageIn 2 = .ok (.iconst 0, 1) := by decide +kernel
theorem dX11_pageIn_3 : decode cX11_pageIn 3 = .ok (.istore 4, 2) := by decide +kernel
theorem dX11_pageIn_5 : decode cX11_pageIn 5 = .ok (.iload 4, 2) := by decide +kernel
theorem dX11_pageIn_7 : decode cX11_pageIn 7 = .ok (.bipush 8, 2) := by decide +kernel
theorem dX11_pageIn_9 : decode cX11_pageIn 9 = .ok (.aload_n 0, 1) := by decide +kernel
theorem dX11_pageIn_10 : decode cX11_pageIn 10 = .ok (.getfield 129, 3) := by decide +kernel
theorem dX11_pageIn_13 : decode cX11_pageIn 13 = .ok (.imul, 1) := by decide +kernel
theorem dX11_pageIn_14 : decode cX11_pageIn 14 = .ok (.if_icmp .ge 46, 3) := by decide +kernel
theorem dX11_pageIn_17 : decode cX11_pageIn 17 = .ok (.iload_n 3, 1) := by decide +kernel
theorem dX11_pageIn_18 : decode cX11_pageIn 18 = .ok (.iconst (-1), 1) := by decide +kernel
theorem dX11_pageIn_19 : decode cX11_pageIn 19 = .ok (.if_icmp .ne 33, 3) := by decide +kernel
theorem dX11_pageIn_22 : decode cX11_pageIn 22 = .ok (.aload_n 0, 1) := by decide +kernel
theorem dX11_pageIn_23 : decode cX11_pageIn 23 = .ok (.getfield 49, 3) := by decide +kernel
theorem dX11_pageIn_26 : decode cX11_pageIn 26 = .ok (.iload 4, 2) := by decide +kernel
theorem dX11_pageIn_28 : decode cX11_pageIn 28 = .ok (.bipush 8, 2) := by decide +kernel
theorem dX11_pageIn_30 : decode cX11_pageIn 30 = .ok (.idiv, 1) := by decide +kernel
theorem dX11_pageIn_31 : decode cX11_pageIn 31 = .ok (.iaload, 1) := by decide +kernel
theorem dX11_pageIn_32 : decode cX11_pageIn 32 = .ok (.iload_n 1, 1) := by decide +kernel
theorem dX11_pageIn_33 : decode cX11_pageIn 33 = .ok (.if_icmp .ne 19, 3) := by decide +kernel
theorem dX11_pageIn_36 : decode cX11_pageIn 36 = .ok (.aload_n 0, 1) := by decide +kernel
theorem dX11_pageIn_37 : decode cX11_pageIn 37 = .ok (.getfield 86, 3) := by decide +kernel
theorem dX11_pageIn_40 : decode cX11_pageIn 40 = .ok (.iload 4, 2) := by decide +kernel
theorem dX11_pageIn_42 : decode cX11_pageIn 42 = .ok (.iaload, 1) := by decide +kernel
theorem dX11_pageIn_43 : decode cX11_pageIn 43 = .ok (.iload_n 2, 1) := by decide +kernel
theorem dX11_pageIn_44 : decode cX11_pageIn 44 = .ok (.if_icmp .ne 8, 3) := by decide +kernel
theorem dX11_pageIn_47 : decode cX11_pageIn 47 = .ok (.iload 4, 2) := by decide +kernel
theorem dX11_pageIn_49 : decode cX11_pageIn 49 = .ok (.goto 4, 3) := by decide +kernel
theorem dX11_pageIn_52 : decode cX11_pageIn 52 = .ok (.iload_n 3, 1) := by decide +kernel
theorem dX11_pageIn_53 : decode cX11_pageIn 53 = .ok (.istore_n 3, 1) := by decide +kernel
theorem dX11_pageIn_54 : decode cX11_pageIn 54 = .ok (.iinc 4 1, 3) := by decide +kernel
theorem dX11_pageIn_57 : decode cX11_pageIn 57 = .ok (.goto (-52), 3) := by decide +kernel
theorem dX11_pageIn_60 : decode cX11_pageIn 60 = .ok (.iload_n 3, 1) := by decide +kernel
theorem dX11_pageIn_61 : decode cX11_pageIn 61 = .ok (.ireturn, 1) := by decide +kernel
theorem dX11_freeFrame_0 : decode cX11_freeFrame 0 = .ok (.iconst (-1), 1) := by decide +kernel
theorem dX11_freeFrame_1 : decode cX11_freeFrame 1 = .ok (.istore_n 3, 1) := by decide +kernel
theorem dX11_freeFrame_2 : decode cX11_freeFrame 2 = .ok (.iconst 0, 1) := by decide +kernel
theorem dX11_freeFrame_3 : decode cX11_freeFrame 3 = .ok (.istore 4, 2) := by decide +kernel
theorem dX11_freeFrame_5 : decode cX11_freeFrame 5 = .ok (.iload 4, 2) := by decide +kernel
theorem dX11_freeFrame_7 : decode cX11_freeFrame 7 = .ok (.bipush 16, 2) := by decide +kernel
theorem dX11_freeFrame_9 : decode cX11_freeFrame 9 = .ok (.if_icmp .ge 79, 3) := by decide +kernel
theorem dX11_freeFrame_12 : decode cX11_freeFrame 12 = .ok (.aload_n 0, 1) := by decide +kernel
theorem dX11_freeFrame_13 : decode cX11_freeFrame 13 = .ok (.iload_n 1, 1) := by decide +kernel
theorem dX11_freeFrame_14 : decode cX11_freeFrame 14 = .ok (.iload 4, 2) := by decide +kernel
theorem dX11_freeFrame_16 : decode cX11_freeFrame 16 = .ok (.invokevirtual 143, 3) := by decide +kernel
theorem dX11_freeFrame_19 : decode cX11_freeFrame 19 = .ok (.iconst (-1), 1) := by decide +kernel
theorem dX11_freeFrame_20 : decode cX11_freeFrame 20 = .ok (.if_icmp .ne 6, 3) := by decide +kernel
theorem dX11_freeFrame_23 : decode cX11_freeFrame 23 = .ok (.iload 4, 2) := by decide +kernel
theorem dX11_freeFrame_25 : decode cX11_freeFrame 25 = .ok (.ireturn, 1) := by decide +kernel
theorem dX11_freeFrame_26 : decode cX11_freeFrame 26 = .ok (.iload_n 3, 1) := by decide +kernel
theorem dX11_freeFrame_27 : decode cX11_freeFrame 27 = .ok (.iconst (-1), 1) := by decide +kernel
theorem dX11_freeFrame_28 : decode cX11_freeFrame 28 = .ok (.if_icmp .eq 29, 3) := by decide +kernel
theorem dX11_freeFrame_31 : decode cX11_freeFrame 31 = .ok (.aload_n 0, 1) := by decide +kernel
theorem dX11_freeFrame_32 : decode cX11_freeFrame 32 = .ok (.getfield 89, 3) := by decide +kernel
theorem dX11_freeFrame_35 : decode cX11_freeFrame 35 = .ok (.bipush 16, 2) := by decide +kernel
theorem dX11_freeFrame_37 : decode cX11_freeFrame 37 = .ok (.iload_n 1, 1) := by decide +kernel
theorem dX11_freeFrame_38 : decode cX11_freeFrame 38 = .ok (.imul, 1) := by decide +kernel
theorem dX11_freeFrame_39 : decode cX11_freeFrame 39 = .ok (.iload 4, 2) := by decide +kernel
theorem dX11_freeFrame_41 : decode cX11_freeFrame 41 = .ok (.iadd, 1) := by decide +kernel
theorem dX11_freeFrame_42 : decode cX11_freeFrame 42 = .ok (.iaload, 1) := by decide +kernel
theorem dX11_freeFrame_43 : decode cX11_freeFrame 43 = .ok (.aload_n 0, 1) := by decide +kernel
theorem dX11_freeFrame_44 : decode cX11_freeFrame 44 = .ok (.getfield 89, 3) := by decide +kernel
theorem dX11_freeFrame_47 : decode cX11_freeFrame 47 = .ok (.bipush 16, 2) := by decide +kernel
theorem dX11_freeFrame_49 : decode cX11_freeFrame 49 = .ok (.iload_n 1, 1) := by decide +kernel
theorem dX11_freeFrame_50 : decode cX11_freeFrame 50 = .ok (.imul, 1) := by decide +kernel
theorem dX11_freeFrame_51 : decode cX11_freeFrame 51 = .ok (.iload_n 3, 1) := by decide +kernel
theorem dX11_freeFrame_52 : decode cX11_freeFrame 52 = .ok (.iadd, 1) := by decide +kernel
theorem dX11_freeFrame_53 : decode cX11_freeFrame 53 = .ok (.iaload, 1) := by decide +kernel
theorem dX11_freeFrame_54 : decode cX11_freeFrame 54 = .ok (.if_icmp .ge 7, 3) := by decide +kernel
theorem dX11_freeFrame_57 : decode cX11_freeFrame 57 = .ok (.iconst 1, 1) := by decide +kernel
theorem dX11_freeFrame_58 : decode cX11_freeFrame 58 = .ok (.goto 4, 3) := by decide +kernel
theorem dX11_freeFrame_61 : decode cX11_freeFrame 61 = .ok (.iconst 0, 1) := by decide +kernel
theorem dX11_freeFrame_62 : decode cX11_freeFrame 62 = .ok (.istore 5, 2) := by decide +kernel
theorem dX11_freeFrame_64 : decode cX11_freeFrame 64 = .ok (.iload 4, 2) := by decide +kernel
theorem dX11_freeFrame_66 : decode cX11_freeFrame 66 = .ok (.iload_n 2, 1) := by decide +kernel
theorem dX11_freeFrame_67 : decode cX11_freeFrame 67 = .ok (.if_icmp .eq 13, 3) := by decide +kernel
theorem dX11_freeFrame_70 : decode cX11_freeFrame 70 = .ok (.iload 5, 2) := by decide +kernel
theorem dX11_freeFrame_72 : decode cX11_freeFrame 72 = .ok (.ifCond .eq 8, 3) := by decide +kernel
theorem dX11_freeFrame_75 : decode cX11_freeFrame 75 = .ok (.iload 4, 2) := by decide +kernel
theorem dX11_freeFrame_77 : decode cX11_freeFrame 77 = .ok (.goto 4, 3) := by decide +kernel
theorem dX11_freeFrame_80 : decode cX11_freeFrame 80 = .ok (.iload_n 3, 1) := by decide +kernel
theorem dX11_freeFrame_81 : decode cX11_freeFrame 81 = .ok (.istore_n 3, 1) := by decide +kernel
theorem dX11_freeFrame_82 : decode cX11_freeFrame 82 = .ok (.iinc 4 1, 3) := by decide +kernel
theorem dX11_freeFrame_85 : decode cX11_freeFrame 85 = .ok (.goto (-80), 3) := by decide +kernel
theorem dX11_freeFrame_88 : decode cX11_freeFrame 88 = .ok (.iconst 0, 1) := by decide +kernel
theorem dX11_freeFrame_89 : decode cX11_freeFrame 89 = .ok (.istore 4, 2) := by decide +kernel
theorem dX11_freeFrame_91 : decode cX11_freeFrame 91 = .ok (.iload 4, 2) := by decide +kernel
theorem dX11_freeFrame_93 : decode cX11_freeFrame 93 = .ok (.bipush 8, 2) := by decide +kernel
theorem dX11_freeFrame_95 : decode cX11_freeFrame 95 = .ok (.aload_n 0, 1) := by decide +kernel
theorem dX11_freeFrame_96 : decode cX11_freeFrame 96 = .ok (.getfield 129, 3) := by decide +kernel
theorem dX11_freeFrame_99 : decode cX11_freeFrame 99 = .ok (.imul, 1) := by decide +kernel
theorem dX11_freeFrame_100 : decode cX11_freeFrame 100 = .ok (.if_icmp .ge 50, 3) := by decide +kernel
theorem dX11_freeFrame_103 : decode cX11_freeFrame 103 = .ok (.aload_n 0, 1) := by decide +kernel
theorem dX11_freeFrame_104 : decode cX11_freeFrame 104 = .ok (.getfield 49, 3) := by decide +kernel
theorem dX11_freeFrame_107 : decode cX11_freeFrame 107 = .ok (.iload 4, 2) := by decide +kernel
theorem dX11_freeFrame_109 : decode cX11_freeFrame 109 = .ok (.bipush 8, 2) := by decide +kernel
theorem dX11_freeFrame_111 : decode cX11_freeFrame 111 = .ok (.idiv, 1) := by decide +kernel
theorem dX11_freeFrame_112 : decode cX11_freeFrame 112 = .ok (.iaload, 1) := by decide +kernel
theorem dX11_freeFrame_113 : decode cX11_freeFrame 113 = .ok (.iload_n 1, 1) := by decide +kernel
theorem dX11_freeFrame_114 : decode cX11_freeFrame 114 = .ok (.if_icmp .ne 30, 3) := by decide +kernel
theorem dX11_freeFrame_117 : decode cX11_freeFrame 117 = .ok (.aload_n 0, 1) := by decide +kernel
theorem dX11_freeFrame_118 : decode cX11_freeFrame 118 = .ok (.getfield 86, 3) := by decide +kernel
theorem dX11_freeFrame_121 : decode cX11_freeFrame 121 = .ok (.iload 4, 2) := by decide +kernel
theorem dX11_freeFrame_123 : decode cX11_freeFrame 123 = .ok (.iaload, 1) := by decide +kernel
theorem dX11_freeFrame_124 : decode cX11_freeFrame 124 = .ok (.iload_n 3, 1) := by decide +kernel
theorem dX11_freeFrame_125 : decode cX11_freeFrame 125 = .ok (.if_icmp .ne 19, 3) := by decide +kernel
theorem dX11_freeFrame_128 : decode cX11_freeFrame 128 = .ok (.aload_n 0, 1) := by decide +kernel
theorem dX11_freeFrame_129 : decode cX11_freeFrame 129 = .ok (.getfield 86, 3) := by decide +kernel
theorem dX11_freeFrame_132 : decode cX11_freeFrame 132 = .ok (.iload 4, 2) := by decide +kernel
theorem dX11_freeFrame_134 : decode cX11_freeFrame 134 = .ok (.iconst (-1), 1) := by decide +kernel
theorem dX11_freeFrame_135 : decode cX11_freeFrame 135 = .ok (.iastore, 1) := by decide +kernel
theorem dX11_freeFrame_136 : decode cX11_freeFrame 136 = .ok (.aload_n 0, 1) := by decide +kernel
theorem dX11_freeFrame_137 : decode cX11_freeFrame 137 = .ok (.getfield 83, 3) := by decide +kernel
theorem dX11_freeFrame_140 : decode cX11_freeFrame 140 = .ok (.iload 4, 2) := by decide +kernel
theorem dX11_freeFrame_142 : decode cX11_freeFrame 142 = .ok (.iconst 2, 1) := by decide +kernel
theorem dX11_freeFrame_143 : decode cX11_freeFrame 143 = .ok (.iastore, 1) := by decide +kernel
theorem dX11_freeFrame_144 : decode cX11_freeFrame 144 = .ok (.iinc 4 1, 3) := by decide +kernel
theorem dX11_freeFrame_147 : decode cX11_freeFrame 147 = .ok (.goto (-56), 3) := by decide +kernel
theorem dX11_freeFrame_150 : decode cX11_freeFrame 150 = .ok (.iload_n 3, 1) := by decide +kernel
theorem dX11_freeFrame_151 : decode cX11_freeFrame 151 = .ok (.ireturn, 1) := by decide +kernel
theorem dX11_touch_0 : decode cX11_touch 0 = .ok (.bipush 8, 2) := by decide +kernel
theorem dX11_touch_2 : decode cX11_touch 2 = .ok (.iload_n 1, 1) := by decide +kernel
theorem dX11_touch_3 : decode cX11_touch 3 = .ok (.imul, 1) := by decide +kernel
theorem dX11_touch_4 : decode cX11_touch 4 = .ok (.iload_n 2, 1) := by decide +kernel
theorem dX11_touch_5 : decode cX11_touch 5 = .ok (.iadd, 1) := by decide +kernel
theorem dX11_touch_6 : decode cX11_touch 6 = .ok (.istore 4, 2) := by decide +kernel
theorem dX11_touch_8 : decode cX11_touch 8 = .ok (.aload_n 0, 1) := by decide +kernel
theorem dX11_touch_9 : decode cX11_touch 9 = .ok (.getfield 49, 3) := by decide +kernel
theorem dX11_touch_12 : decode cX11_touch 12 = .ok (.iload_n 1, 1) := by decide +kernel
theorem dX11_touch_13 : decode cX11_touch 13 = .ok (.iaload, 1) := by decide +kernel
theorem dX11_touch_14 : decode cX11_touch 14 = .ok (.istore 5, 2) := by decide +kernel
theorem dX11_touch_16 : decode cX11_touch 16 = .ok (.aload_n 0, 1) := by decide +kernel
theorem dX11_touch_17 : decode cX11_touch 17 = .ok (.getfield 83, 3) := by decide +kernel
theorem dX11_touch_20 : decode cX11_touch 20 = .ok (.iload 4, 2) := by decide +kernel
theorem dX11_touch_22 : decode cX11_touch 22 = .ok (.iaload, 1) := by decide +kernel
theorem dX11_touch_23 : decode cX11_touch 23 = .ok (.iconst 1, 1) := by decide +kernel
theorem dX11_touch_24 : decode cX11_touch 24 = .ok (.if_icmp .eq 61, 3) := by decide +kernel
theorem dX11_touch_27 : decode cX11_touch 27 = .ok (.aload_n 0, 1) := by decide +kernel
theorem dX11_touch_28 : decode cX11_touch 28 = .ok (.iload 5, 2) := by decide +kernel
theorem dX11_touch_30 : decode cX11_touch 30 = .ok (.iconst (-1), 1) := by decide +kernel
theorem dX11_touch_31 : decode cX11_touch 31 = .ok (.invokevirtual 147, 3) := by decide +kernel
theorem dX11_touch_34 : decode cX11_touch 34 = .ok (.istore 6, 2) := by decide +kernel
theorem dX11_touch_36 : decode cX11_touch 36 = .ok (.aload_n 0, 1) := by decide +kernel
theorem dX11_touch_37 : decode cX11_touch 37 = .ok (.getfield 80, 3) := by decide +kernel
theorem dX11_touch_40 : decode cX11_touch 40 = .ok (.bipush 6, 2) := by decide +kernel
theorem dX11_touch_42 : decode cX11_touch 42 = .ok (.iload_n 1, 1) := by decide +kernel
theorem dX11_touch_43 : decode cX11_touch 43 = .ok (.imul, 1) := by decide +kernel
theorem dX11_touch_44 : decode cX11_touch 44 = .ok (.aload_n 0, 1) := by decide +kernel
theorem dX11_touch_45 : decode cX11_touch 45 = .ok (.getfield 83, 3) := by decide +kernel
theorem dX11_touch_48 : decode cX11_touch 48 = .ok (.iload 4, 2) := by decide +kernel
theorem dX11_touch_50 : decode cX11_touch 50 = .ok (.iaload, 1) := by decide +kernel
theorem dX11_touch_51 : decode cX11_touch 51 = .ok (.ifCond .ne 7, 3) := by decide +kernel
theorem dX11_touch_54 : decode cX11_touch 54 = .ok (.iconst 0, 1) := by decide +kernel
theorem dX11_touch_55 : decode cX11_touch 55 = .ok (.goto 4, 3) := by decide +kernel
theorem dX11_touch_58 : decode cX11_touch 58 = .ok (.iconst 1, 1) := by decide +kernel
theorem dX11_touch_59 : decode cX11_touch 59 = .ok (.iadd, 1) := by decide +kernel
theorem dX11_touch_60 : decode cX11_touch 60 = .ok (.dup2, 1) := by decide +kernel
theorem dX11_touch_61 : decode cX11_touch 61 = .ok (.iaload, 1) := by decide +kernel
theorem dX11_touch_62 : decode cX11_touch 62 = .ok (.iconst 1, 1) := by decide +kernel
theorem dX11_touch_63 : decode cX11_touch 63 = .ok (.iadd, 1) := by decide +kernel
theorem dX11_touch_64 : decode cX11_touch 64 = .ok (.iastore, 1) := by decide +kernel
theorem dX11_touch_65 : decode cX11_touch 65 = .ok (.aload_n 0, 1) := by decide +kernel
theorem dX11_touch_66 : decode cX11_touch 66 = .ok (.getfield 83, 3) := by decide +kernel
theorem dX11_touch_69 : decode cX11_touch 69 = .ok (.iload 4, 2) := by decide +kernel
theorem dX11_touch_71 : decode cX11_touch 71 = .ok (.iconst 1, 1) := by decide +kernel
theorem dX11_touch_72 : decode cX11_touch 72 = .ok (.iastore, 1) := by decide +kernel
theorem dX11_touch_73 : decode cX11_touch 73 = .ok (.aload_n 0, 1) := by decide +kernel
theorem dX11_touch_74 : decode cX11_touch 74 = .ok (.getfield 86, 3) := by decide +kernel
theorem dX11_touch_77 : decode cX11_touch 77 = .ok (.iload 4, 2) := by decide +kernel
theorem dX11_touch_79 : decode cX11_touch 79 = .ok (.iload 6, 2) := by decide +kernel
theorem dX11_touch_81 : decode cX11_touch 81 = .ok (.iastore, 1) := by decide +kernel
theorem dX11_touch_82 : decode cX11_touch 82 = .ok (.goto 63, 3) := by decide +kernel
theorem dX11_touch_85 : decode cX11_touch 85 = .ok (.iload_n 3, 1) := by decide +kernel
theorem dX11_touch_86 : decode cX11_touch 86 = .ok (.ifCond .eq 59, 3) := by decide +kernel
theorem dX11_touch_89 : decode cX11_touch 89 = .ok (.aload_n 0, 1) := by decide +kernel
theorem dX11_touch_90 : decode cX11_touch 90 = .ok (.iload 5, 2) := by decide +kernel
theorem dX11_touch_92 : decode cX11_touch 92 = .ok (.aload_n 0, 1) := by decide +kernel
theorem dX11_touch_93 : decode cX11_touch 93 = .ok (.getfield 86, 3) := by decide +kernel
theorem dX11_touch_96 : decode cX11_touch 96 = .ok (.iload 4, 2) := by decide +kernel
theorem dX11_touch_98 : decode cX11_touch 98 = .ok (.iaload, 1) := by decide +kernel
theorem dX11_touch_99 : decode cX11_touch 99 = .ok (.invokevirtual 150, 3) := by decide +kernel
theorem dX11_touch_102 : decode cX11_touch 102 = .ok (.iconst 1, 1) := by decide +kernel
theorem dX11_touch_103 : decode cX11_touch 103 = .ok (.if_icmp .le 42, 3) := by decide +kernel
theorem dX11_touch_106 : decode cX11_touch 106 = .ok (.aload_n 0, 1) := by decide +kernel
theorem dX11_touch_107 : decode cX11_touch 107 = .ok (.iload 5, 2) := by decide +kernel
theorem dX11_touch_109 : decode cX11_touch 109 = .ok (.aload_n 0, 1) := by decide +kernel
theorem dX11_touch_110 : decode cX11_touch 110 = .ok (.getfield 86, 3) := by decide +kernel
theorem dX11_touch_113 : decode cX11_touch 113 = .ok (.iload 4, 2) := by decide +kernel
theorem dX11_touch_115 : decode cX11_touch 115 = .ok (.iaload, 1) := by decide +kernel
theorem dX11_touch_116 : decode cX11_touch 116 = .ok (.invokevirtual 147, 3) := by decide +kernel
theorem dX11_touch_119 : decode cX11_touch 119 = .ok (.istore 6, 2) := by decide +kernel
theorem dX11_touch_121 : decode cX11_touch 121 = .ok (.aload_n 0, 1) := by decide +kernel
theorem dX11_touch_122 : decode cX11_touch 122 = .ok (.getfield 80, 3) := by decide +kernel
theorem dX11_touch_125 : decode cX11_touch 125 = .ok (.bipush 6, 2) := by decide +kernel
theorem dX11_touch_127 : decode cX11_touch 127 = .ok (.iload_n 1, 1) := by decide +kernel
theorem dX11_touch_128 : decode cX11_touch 128 = .ok (.imul, 1) := by decide +kernel
theorem dX11_touch_129 : decode cX11_touch 129 = .ok (.iconst 2, 1) := by decide +kernel
theorem dX11_touch_130 : decode cX11_touch 130 = .ok (.iadd, 1) := by decide +kernel
theorem dX11_touch_131 : decode cX11_touch 131 = .ok (.dup2, 1) := by decide +kernel
theorem dX11_touch_132 : decode cX11_touch 132 = .ok (.iaload, 1) := by decide +kernel
theorem dX11_touch_133 : decode cX11_touch 133 = .ok (.iconst 1, 1) := by decide +kernel
theorem dX11_touch_134 : decode cX11_touch 134 = .ok (.iadd, 1) := by decide +kernel
theorem dX11_touch_135 : decode cX11_touch 135 = .ok (.iastore, 1) := by decide +kernel
theorem dX11_touch_136 : decode cX11_touch 136 = .ok (.aload_n 0, 1) := by decide +kernel
theorem dX11_touch_137 : decode cX11_touch 137 = .ok (.getfield 86, 3) := by decide +kernel
theorem dX11_touch_140 : decode cX11_touch 140 = .ok (.iload 4, 2) := by decide +kernel
theorem dX11_touch_142 : decode cX11_touch 142 = .ok (.iload 6, 2) := by decide +kernel
theorem dX11_touch_144 : decode cX11_touch 144 = .ok (.iastore, 1) := by decide +kernel
theorem dX11_touch_145 : decode cX11_touch 145 = .ok (.aload_n 0, 1) := by decide +kernel
theorem dX11_touch_146 : decode cX11_touch 146 = .ok (.getfield 89, 3) := by decide +kernel
theorem dX11_touch_149 : decode cX11_touch 149 = .ok (.bipush 16, 2) := by decide +kernel
theorem dX11_touch_151 : decode cX11_touch 151 = .ok (.iload 5, 2) := by decide +kernel
theorem dX11_touch_153 : decode cX11_touch 153 = .ok (.imul, 1) := by decide +kernel
theorem dX11_touch_154 : decode cX11_touch 154 = .ok (.aload_n 0, 1) := by decide +kernel
theorem dX11_touch_155 : decode cX11_touch 155 = .ok (.getfield 86, 3) := by decide +kernel
theorem dX11_touch_158 : decode cX11_touch 158 = .ok (.iload 4, 2) := by decide +kernel
theorem dX11_touch_160 : decode cX11_touch 160 = .ok (.iaload, 1) := by decide +kernel
theorem dX11_touch_161 : decode cX11_touch 161 = .ok (.iadd, 1) := by decide +kernel
theorem dX11_touch_162 : decode cX11_touch 162 = .ok (.aload_n 0, 1) := by decide +kernel
theorem dX11_touch_163 : decode cX11_touch 163 = .ok (.getfield 136, 3) := by decide +kernel
theorem dX11_touch_166 : decode cX11_touch 166 = .ok (.iconst 1, 1) := by decide +kernel
theorem dX11_touch_167 : decode cX11_touch 167 = .ok (.iadd, 1) := by decide +kernel
theorem dX11_touch_168 : decode cX11_touch 168 = .ok (.iastore, 1) := by decide +kernel
theorem dX11_touch_169 : decode cX11_touch 169 = .ok (.aload_n 0, 1) := by decide +kernel
theorem dX11_touch_170 : decode cX11_touch 170 = .ok (.getfield 95, 3) := by decide +kernel
theorem dX11_touch_173 : decode cX11_touch 173 = .ok (.iload_n 1, 1) := by decide +kernel
theorem dX11_touch_174 : decode cX11_touch 174 = .ok (.dup2, 1) := by decide +kernel
theorem dX11_touch_175 : decode cX11_touch 175 = .ok (.iaload, 1) := by decide +kernel
theorem dX11_touch_176 : decode cX11_touch 176 = .ok (.iload_n 3, 1) := by decide +kernel
theorem dX11_touch_177 : decode cX11_touch 177 = .ok (.ifCond .eq 18, 3) := by decide +kernel
theorem dX11_touch_180 : decode cX11_touch 180 = .ok (.aload_n 0, 1) := by decide +kernel
theorem dX11_touch_181 : decode cX11_touch 181 = .ok (.getfield 92, 3) := by decide +kernel
theorem dX11_touch_184 : decode cX11_touch 184 = .ok (.iload_n 1, 1) := by decide +kernel
theorem dX11_touch_185 : decode cX11_touch 185 = .ok (.baload, 1) := by decide +kernel
theorem dX11_touch_186 : decode cX11_touch 186 = .ok (.ifCond .eq 9, 3) := by decide +kernel
theorem dX11_touch_189 : decode cX11_touch 189 = .ok (.iconst 1, 1) := by decide +kernel
theorem dX11_touch_190 : decode cX11_touch 190 = .ok (.iload_n 2, 1) := by decide +kernel
theorem dX11_touch_191 : decode cX11_touch 191 = .ok (.ishl, 1) := by decide +kernel
theorem dX11_touch_192 : decode cX11_touch 192 = .ok (.goto 4, 3) := by decide +kernel
theorem dX11_touch_195 : decode cX11_touch 195 = .ok (.iconst 0, 1) := by decide +kernel
theorem dX11_touch_196 : decode cX11_touch 196 = .ok (.ior, 1) := by decide +kernel
theorem dX11_touch_197 : decode cX11_touch 197 = .ok (.iastore, 1) := by decide +kernel
theorem dX11_touch_198 : decode cX11_touch 198 = .ok (.return_, 1) := by decide +kernel
theorem dX11_isZero_0 : decode cX11_isZero 0 = .ok (.iconst 1, 1) := by decide +kernel
theorem dX11_isZero_1 : decode cX11_isZero 1 = .ok (.istore 4, 2) := by decide +kernel
theorem dX11_isZero_3 : decode cX11_isZero 3 = .ok (.iconst 0, 1) := by decide +kernel
theorem dX11_isZero_4 : decode cX11_isZero 4 = .ok (.istore 5, 2) := by decide +kernel
theorem dX11_isZero_6 : decode cX11_isZero 6 = .ok (.iload 5, 2) := by decide +kernel
theorem dX11_isZero_8 : decode cX11_isZero 8 = .ok (.iconst 4, 1) := by decide +kernel
theorem dX11_isZero_9 : decode cX11_isZero 9 = .ok (.if_icmp .ge 37, 3) := by decide +kernel
theorem dX11_isZero_12 : decode cX11_isZero 12 = .ok (.iload 4, 2) := by decide +kernel
theorem dX11_isZero_14 : decode cX11_isZero 14 = .ok (.ifCond .eq 23, 3) := by decide +kernel
theorem dX11_isZero_17 : decode cX11_isZero 17 = .ok (.aload_n 1, 1) := by decide +kernel
theorem dX11_isZero_18 : decode cX11_isZero 18 = .ok (.iload_n 2, 1) := by decide +kernel
theorem dX11_isZero_19 : decode cX11_isZero 19 = .ok (.bipush 17, 2) := by decide +kernel
theorem dX11_isZero_21 : decode cX11_isZero 21 = .ok (.iadd, 1) := by decide +kernel
theorem dX11_isZero_22 : decode cX11_isZero 22 = .ok (.iconst 4, 1) := by decide +kernel
theorem dX11_isZero_23 : decode cX11_isZero 23 = .ok (.iload_n 3, 1) := by decide +kernel
theorem dX11_isZero_24 : decode cX11_isZero 24 = .ok (.imul, 1) := by decide +kernel
theorem dX11_isZero_25 : decode cX11_isZero 25 = .ok (.iadd, 1) := by decide +kernel
theorem dX11_isZero_26 : decode cX11_isZero 26 = .ok (.iload 5, 2) := by decide +kernel
theorem dX11_isZero_28 : decode cX11_isZero 28 = .ok (.iadd, 1) := by decide +kernel
theorem dX11_isZero_29 : decode cX11_isZero 29 = .ok (.iaload, 1) := by decide +kernel
theorem dX11_isZero_30 : decode cX11_isZero 30 = .ok (.ifCond .ne 7, 3) := by decide +kernel
theorem dX11_isZero_33 : decode cX11_isZero 33 = .ok (.iconst 1, 1) := by decide +kernel
theorem dX11_isZero_34 : decode cX11_isZero 34 = .ok (.goto 4, 3) := by decide +kernel
theorem dX11_isZero_37 : decode cX11_isZero 37 = .ok (.iconst 0, 1) := by decide +kernel
theorem dX11_isZero_38 : decode cX11_isZero 38 = .ok (.istore 4, 2) := by decide +kernel
theorem dX11_isZero_40 : decode cX11_isZero 40 = .ok (.iinc 5 1, 3) := by decide +kernel
theorem dX11_isZero_43 : decode cX11_isZero 43 = .ok (.goto (-37), 3) := by decide +kernel
theorem dX11_isZero_46 : decode cX11_isZero 46 = .ok (.iload 4, 2) := by decide +kernel
theorem dX11_isZero_48 : decode cX11_isZero 48 = .ok (.ireturn, 1) := by decide +kernel
theorem dX11_fault_0 : decode cX11_fault 0 = .ok (.bipush 55, 2) := by decide +kernel
theorem dX11_fault_2 : decode cX11_fault 2 = .ok (.iload_n 1, 1) := by decide +kernel
theorem dX11_fault_3 : decode cX11_fault 3 = .ok (.imul, 1) := by decide +kernel
theorem dX11_fault_4 : decode cX11_fault 4 = .ok (.istore_n 2, 1) := by decide +kernel
theorem dX11_fault_5 : decode cX11_fault 5 = .ok (.aload_n 0, 1) := by decide +kernel
theorem dX11_fault_6 : decode cX11_fault 6 = .ok (.getfield 7, 3) := by decide +kernel
theorem dX11_fault_9 : decode cX11_fault 9 = .ok (.iload_n 2, 1) := by decide +kernel
theorem dX11_fault_10 : decode cX11_fault 10 = .ok (.iconst 5, 1) := by decide +kernel
theorem dX11_fault_11 : decode cX11_fault 11 = .ok (.iadd, 1) := by decide +kernel
theorem dX11_fault_12 : decode cX11_fault 12 = .ok (.iaload, 1) := by decide +kernel
theorem dX11_fault_13 : decode cX11_fault 13 = .ok (.iconst (-1), 1) := by decide +kernel
theorem dX11_fault_14 : decode cX11_fault 14 = .ok (.if_icmp .eq 16, 3) := by decide +kernel
theorem dX11_fault_17 : decode cX11_fault 17 = .ok (.aload_n 0, 1) := by decide +kernel
theorem dX11_fault_18 : decode cX11_fault 18 = .ok (.getfield 7, 3) := by decide +kernel
theorem dX11_fault_21 : decode cX11_fault 21 = .ok (.iload_n 2, 1) := by decide +kernel
theorem dX11_fault_22 : decode cX11_fault 22 = .ok (.bipush 8, 2) := by decide +kernel
theorem dX11_fault_24 : decode cX11_fault 24 = .ok (.iadd, 1) := by decide +kernel
theorem dX11_fault_25 : decode cX11_fault 25 = .ok (.iaload, 1) := by decide +kernel
theorem dX11_fault_26 : decode cX11_fault 26 = .ok (.iconst 1, 1) := by decide +kernel
theorem dX11_fault_27 : decode cX11_fault 27 = .ok (.if_icmp .ne 14, 3) := by decide +kernel
theorem dX11_fault_30 : decode cX11_fault 30 = .ok (.aload_n 0, 1) := by decide +kernel
theorem dX11_fault_31 : decode cX11_fault 31 = .ok (.getfield 7, 3) := by decide +kernel
theorem dX11_fault_34 : decode cX11_fault 34 = .ok (.iload_n 2, 1) := by decide +kernel
theorem dX11_fault_35 : decode cX11_fault 35 = .ok (.bipush 49, 2) := by decide +kernel
theorem dX11_fault_37 : decode cX11_fault 37 = .ok (.iadd, 1) := by decide +kernel
theorem dX11_fault_38 : decode cX11_fault 38 = .ok (.iconst 3, 1) := by decide +kernel
theorem dX11_fault_39 : decode cX11_fault 39 = .ok (.iastore, 1) := by decide +kernel
theorem dX11_fault_40 : decode cX11_fault 40 = .ok (.return_, 1) := by decide +kernel
theorem dX11_fault_41 : decode cX11_fault 41 = .ok (.aload_n 0, 1) := by decide +kernel
theorem dX11_fault_42 : decode cX11_fault 42 = .ok (.iload_n 1, 1) := by decide +kernel
theorem dX11_fault_43 : decode cX11_fault 43 = .ok (.iconst 1, 1) := by decide +kernel
theorem dX11_fault_44 : decode cX11_fault 44 = .ok (.invokevirtual 153, 3) := by decide +kernel
theorem dX11_fault_47 : decode cX11_fault 47 = .ok (.return_, 1) := by decide +kernel
theorem dX11_goTo_0 : decode cX11_goTo 0 = .ok (.bipush 55, 2) := by decide +kernel
theorem dX11_goTo_2 : decode cX11_goTo 2 = .ok (.iload_n 1, 1) := by decide +kernel
theorem dX11_goTo_3 : decode cX11_goTo 3 = .ok (.imul, 1) := by decide +kernel
theorem dX11_goTo_4 : decode cX11_goTo 4 = .ok (.istore_n 3, 1) := by decide +kernel
theorem dX11_goTo_5 : decode cX11_goTo 5 = .ok (.aload_n 0, 1) := by decide +kernel
theorem dX11_goTo_6 : decode cX11_goTo 6 = .ok (.getfield 7, 3) := by decide +kernel
theorem dX11_goTo_9 : decode cX11_goTo 9 = .ok (.iload_n 3, 1) := by decide +kernel
theorem dX11_goTo_10 : decode cX11_goTo 10 = .ok (.bipush 6, 2) := by decide +kernel
theorem dX11_goTo_12 : decode cX11_goTo 12 = .ok (.iadd, 1) := by decide +kernel
theorem dX11_goTo_13 : decode cX11_goTo 13 = .ok (.aload_n 0, 1) := by decide +kernel
theorem dX11_goTo_14 : decode cX11_goTo 14 = .ok (.getfield 7, 3) := by decide +kernel
theorem dX11_goTo_17 : decode cX11_goTo 17 = .ok (.iload_n 3, 1) := by decide +kernel
theorem dX11_goTo_18 : decode cX11_goTo 18 = .ok (.iconst 4, 1) := by decide +kernel
theorem dX11_goTo_19 : decode cX11_goTo 19 = .ok (.iadd, 1) := by decide +kernel
theorem dX11_goTo_20 : decode cX11_goTo 20 = .ok (.iaload, 1) := by decide +kernel
theorem dX11_goTo_21 : decode cX11_goTo 21 = .ok (.iastore, 1) := by decide +kernel
theorem dX11_goTo_22 : decode cX11_goTo 22 = .ok (.aload_n 0, 1) := by decide +kernel
theorem dX11_goTo_23 : decode cX11_goTo 23 = .ok (.getfield 7, 3) := by decide +kernel
theorem dX11_goTo_26 : decode cX11_goTo 26 = .ok (.iload_n 3, 1) := by decide +kernel
theorem dX11_goTo_27 : decode cX11_goTo 27 = .ok (.iconst 4, 1) := by decide +kernel
theorem dX11_goTo_28 : decode cX11_goTo 28 = .ok (.iadd, 1) := by decide +kernel
theorem dX11_goTo_29 : decode cX11_goTo 29 = .ok (.aload_n 0, 1) := by decide +kernel
theorem dX11_goTo_30 : decode cX11_goTo 30 = .ok (.getfield 7, 3) := by decide +kernel
theorem dX11_goTo_33 : decode cX11_goTo 33 = .ok (.iload_n 3, 1) := by decide +kernel
theorem dX11_goTo_34 : decode cX11_goTo 34 = .ok (.iconst 5, 1) := by decide +kernel
theorem dX11_goTo_35 : decode cX11_goTo 35 = .ok (.iadd, 1) := by decide +kernel
theorem dX11_goTo_36 : decode cX11_goTo 36 = .ok (.iaload, 1) := by decide +kernel
theorem dX11_goTo_37 : decode cX11_goTo 37 = .ok (.iastore, 1) := by decide +kernel
theorem dX11_goTo_38 : decode cX11_goTo 38 = .ok (.aload_n 0, 1) := by decide +kernel
theorem dX11_goTo_39 : decode cX11_goTo 39 = .ok (.getfield 7, 3) := by decide +kernel
theorem dX11_goTo_42 : decode cX11_goTo 42 = .ok (.iload_n 3, 1) := by decide +kernel
theorem dX11_goTo_43 : decode cX11_goTo 43 = .ok (.bipush 8, 2) := by decide +kernel
theorem dX11_goTo_45 : decode cX11_goTo 45 = .ok (.iadd, 1) := by decide +kernel
theorem dX11_goTo_46 : decode cX11_goTo 46 = .ok (.iconst 1, 1) := by decide +kernel
theorem dX11_goTo_47 : decode cX11_goTo 47 = .ok (.iastore, 1) := by decide +kernel
theorem dX11_goTo_48 : decode cX11_goTo 48 = .ok (.aload_n 0, 1) := by decide +kernel
theorem dX11_goTo_49 : decode cX11_goTo 49 = .ok (.getfield 7, 3) := by decide +kernel
theorem dX11_goTo_52 : decode cX11_goTo 52 = .ok (.iload_n 3, 1) := by decide +kernel
theorem dX11_goTo_53 : decode cX11_goTo 53 = .ok (.bipush 7, 2) := by decide +kernel
theorem dX11_goTo_55 : decode cX11_goTo 55 = .ok (.iadd, 1) := by decide +kernel
theorem dX11_goTo_56 : decode cX11_goTo 56 = .ok (.iload_n 2, 1) := by decide +kernel
theorem dX11_goTo_57 : decode cX11_goTo 57 = .ok (.iastore, 1) := by decide +kernel
theorem dX11_goTo_58 : decode cX11_goTo 58 = .ok (.return_, 1) := by decide +kernel
theorem dX11_say_0 : decode cX11_say 0 = .ok (.aload_n 0, 1) := by decide +kernel
theorem dX11_say_1 : decode cX11_say 1 = .ok (.getfield 101, 3) := by decide +kernel
theorem dX11_say_4 : decode cX11_say 4 = .ok (.iload_n 1, 1) := by decide +kernel
theorem dX11_say_5 : decode cX11_say 5 = .ok (.baload, 1) := by decide +kernel
theorem dX11_say_6 : decode cX11_say 6 = .ok (.ifCond .eq 34, 3) := by decide +kernel
theorem dX11_say_9 : decode cX11_say 9 = .ok (.aload_n 0, 1) := by decide +kernel
theorem dX11_say_10 : decode cX11_say 10 = .ok (.getfield 110, 3) := by decide +kernel
theorem dX11_say_13 : decode cX11_say 13 = .ok (.sipush 3000, 3) := by decide +kernel
theorem dX11_say_16 : decode cX11_say 16 = .ok (.iload_n 1, 1) := by decide +kernel
theorem dX11_say_17 : decode cX11_say 17 = .ok (.imul, 1) := by decide +kernel
theorem dX11_say_18 : decode cX11_say 18 = .ok (.aload_n 0, 1) := by decide +kernel
theorem dX11_say_19 : decode cX11_say 19 = .ok (.getfield 113, 3) := by decide +kernel
theorem dX11_say_22 : decode cX11_say 22 = .ok (.iload_n 1, 1) := by decide +kernel
theorem dX11_say_23 : decode cX11_say 23 = .ok (.iaload, 1) := by decide +kernel
theorem dX11_say_24 : decode cX11_say 24 = .ok (.iadd, 1) := by decide +kernel
theorem dX11_say_25 : decode cX11_say 25 = .ok (.iload_n 2, 1) := by decide +kernel
theorem dX11_say_26 : decode cX11_say 26 = .ok (.iastore, 1) := by decide +kernel
theorem dX11_say_27 : decode cX11_say 27 = .ok (.aload_n 0, 1) := by decide +kernel
theorem dX11_say_28 : decode cX11_say 28 = .ok (.getfield 113, 3) := by decide +kernel
theorem dX11_say_31 : decode cX11_say 31 = .ok (.iload_n 1, 1) := by decide +kernel
theorem dX11_say_32 : decode cX11_say 32 = .ok (.dup2, 1) := by decide +kernel
theorem dX11_say_33 : decode cX11_say 33 = .ok (.iaload, 1) := by decide +kernel
theorem dX11_say_34 : decode cX11_say 34 = .ok (.iconst 1, 1) := by decide +kernel
theorem dX11_say_35 : decode cX11_say 35 = .ok (.iadd, 1) := by decide +kernel
theorem dX11_say_36 : decode cX11_say 36 = .ok (.iastore, 1) := by decide +kernel
theorem dX11_say_37 : decode cX11_say 37 = .ok (.goto 31, 3) := by decide +kernel
theorem dX11_say_40 : decode cX11_say 40 = .ok (.aload_n 0, 1) := by decide +kernel
theorem dX11_say_41 : decode cX11_say 41 = .ok (.getfield 104, 3) := by decide +kernel
theorem dX11_say_44 : decode cX11_say 44 = .ok (.sipush 3000, 3) := by decide +kernel
theorem dX11_say_47 : decode cX11_say 47 = .ok (.iload_n 1, 1) := by decide +kernel
theorem dX11_say_48 : decode cX11_say 48 = .ok (.imul, 1) := by decide +kernel
theorem dX11_say_49 : decode cX11_say 49 = .ok (.aload_n 0, 1) := by decide +kernel
theorem dX11_say_50 : decode cX11_say 50 = .ok (.getfield 107, 3) := by decide +kernel
theorem dX11_say_53 : decode cX11_say 53 = .ok (.iload_n 1, 1) := by decide +kernel
theorem dX11_say_54 : decode cX11_say 54 = .ok (.iaload, 1) := by decide +kernel
theorem dX11_say_55 : decode cX11_say 55 = .ok (.iadd, 1) := by decide +kernel
theorem dX11_say_56 : decode cX11_say 56 = .ok (.iload_n 2, 1) := by decide +kernel
theorem dX11_say_57 : decode cX11_say 57 = .ok (.iastore, 1) := by decide +kernel
theorem dX11_say_58 : decode cX11_say 58 = .ok (.aload_n 0, 1) := by decide +kernel
theorem dX11_say_59 : decode cX11_say 59 = .ok (.getfield 107, 3) := by decide +kernel
theorem dX11_say_62 : decode cX11_say 62 = .ok (.iload_n 1, 1) := by decide +kernel
theorem dX11_say_63 : decode cX11_say 63 = .ok (.dup2, 1) := by decide +kernel
theorem dX11_say_64 : decode cX11_say 64 = .ok (.iaload, 1) := by decide +kernel
theorem dX11_say_65 : decode cX11_say 65 = .ok (.iconst 1, 1) := by decide +kernel
theorem dX11_say_66 : decode cX11_say 66 = .ok (.iadd, 1) := by decide +kernel
theorem dX11_say_67 : decode cX11_say 67 = .ok (.iastore, 1) := by decide +kernel
theorem dX11_say_68 : decode cX11_say 68 = .ok (.return_, 1) := by decide +kernel
theorem dX11_letOut_0 : decode cX11_letOut 0 = .ok (.aload_n 0, 1) := by decide +kernel
theorem dX11_letOut_1 : decode cX11_letOut 1 = .ok (.getfield 113, 3) := by decide +kernel
theorem dX11_letOut_4 : decode cX11_letOut 4 = .ok (.iload_n 1, 1) := by decide +kernel
theorem dX11_letOut_5 : decode cX11_letOut 5 = .ok (.iaload, 1) := by decide +kernel
theorem dX11_letOut_6 : decode cX11_letOut 6 = .ok (.istore_n 2, 1) := by decide +kernel
theorem dX11_letOut_7 : decode cX11_letOut 7 = .ok (.iconst 0, 1) := by decide +kernel
theorem dX11_letOut_8 : decode cX11_letOut 8 = .ok (.istore_n 3, 1) := by decide +kernel
theorem dX11_letOut_9 : decode cX11_letOut 9 = .ok (.iload_n 3, 1) := by decide +kernel
theorem dX11_letOut_10 : decode cX11_letOut 10 = .ok (.iload_n 2, 1) := by decide +kernel
theorem dX11_letOut_11 : decode cX11_letOut 11 = .ok (.if_icmp .ge 48, 3) := by decide +kernel
theorem dX11_letOut_14 : decode cX11_letOut 14 = .ok (.aload_n 0, 1) := by decide +kernel
theorem dX11_letOut_15 : decode cX11_letOut 15 = .ok (.getfield 104, 3) := by decide +kernel
theorem dX11_letOut_18 : decode cX11_letOut 18 = .ok (.sipush 3000, 3) := by decide +kernel
theorem dX11_letOut_21 : decode cX11_letOut 21 = .ok (.iload_n 1, 1) := by decide +kernel
theorem dX11_letOut_22 : decode cX11_letOut 22 = .ok (.imul, 1) := by decide +kernel
theorem dX11_letOut_23 : decode cX11_letOut 23 = .ok (.aload_n 0, 1) := by decide +kernel
theorem dX11_letOut_24 : decode cX11_letOut 24 = .ok (.getfield 107, 3) := by decide +kernel
theorem dX11_letOut_27 : decode cX11_letOut 27 = .ok (.iload_n 1, 1) := by decide +kernel
theorem dX11_letOut_28 : decode cX11_letOut 28 = .ok (.iaload, 1) := by decide +kernel
theorem dX11_letOut_29 : decode cX11_letOut 29 = .ok (.iadd, 1) := by decide +kernel
theorem dX11_letOut_30 : decode cX11_letOut 30 = .ok (.aload_n 0, 1) := by decide +kernel
theorem dX11_letOut_31 : decode cX11_letOut 31 = .ok (.getfield 110, 3) := by decide +kernel
theorem dX11_letOut_34 : decode cX11_letOut 34 = .ok (.sipush 3000, 3) := by decide +kernel
theorem dX11_letOut_37 : decode cX11_letOut 37 = .ok (.iload_n 1, 1) := by decide +kernel
theorem dX11_letOut_38 : decode cX11_letOut 38 = .ok (.imul, 1) := by decide +kernel
theorem dX11_letOut_39 : decode cX11_letOut 39 = .ok (.iload_n 3, 1) := by decide +kernel
theorem dX11_letOut_40 : decode cX11_letOut 40 = .ok (.iadd, 1) := by decide +kernel
theorem dX11_letOut_41 : decode cX11_letOut 41 = .ok (.iaload, 1) := by decide +kernel
theorem dX11_letOut_42 : decode cX11_letOut 42 = .ok (.iastore, 1) := by decide +kernel
theorem dX11_letOut_43 : decode cX11_letOut 43 = .ok (.aload_n 0, 1) := by decide +kernel
theorem dX11_letOut_44 : decode cX11_letOut 44 = .ok (.getfield 107, 3) := by decide +kernel
theorem dX11_letOut_47 : decode cX11_letOut 47 = .ok (.iload_n 1, 1) := by decide +kernel
theorem dX11_letOut_48 : decode cX11_letOut 48 = .ok (.dup2, 1) := by decide +kernel
theorem dX11_letOut_49 : decode cX11_letOut 49 = .ok (.iaload, 1) := by decide +kernel
theorem dX11_letOut_50 : decode cX11_letOut 50 = .ok (.iconst 1, 1) := by decide +kernel
theorem dX11_letOut_51 : decode cX11_letOut 51 = .ok (.iadd, 1) := by decide +kernel
theorem dX11_letOut_52 : decode cX11_letOut 52 = .ok (.iastore, 1) := by decide +kernel
theorem dX11_letOut_53 : decode cX11_letOut 53 = .ok (.iinc 3 1, 3) := by decide +kernel
theorem dX11_letOut_56 : decode cX11_letOut 56 = .ok (.goto (-47), 3) := by decide +kernel
theorem dX11_letOut_59 : decode cX11_letOut 59 = .ok (.aload_n 0, 1) := by decide +kernel
theorem dX11_letOut_60 : decode cX11_letOut 60 = .ok (.getfield 113, 3) := by decide +kernel
theorem dX11_letOut_63 : decode cX11_letOut 63 = .ok (.iload_n 1, 1) := by decide +kernel
theorem dX11_letOut_64 : decode cX11_letOut 64 = .ok (.iconst 0, 1) := by decide +kernel
theorem dX11_letOut_65 : decode cX11_letOut 65 = .ok (.iastore, 1) := by decide +kernel
theorem dX11_letOut_66 : decode cX11_letOut 66 = .ok (.iload_n 2, 1) := by decide +kernel
theorem dX11_letOut_67 : decode cX11_letOut 67 = .ok (.ireturn, 1) := by decide +kernel
theorem dX11_takeInput_0 : decode cX11_takeInput 0 = .ok (.bipush 55, 2) := by decide +kernel
theorem dX11_takeInput_2 : decode cX11_takeInput 2 = .ok (.iload_n 1, 1) := by decide +kernel
theorem dX11_takeInput_3 : decode cX11_takeInput 3 = .ok (.imul, 1) := by decide +kernel
theorem dX11_takeInput_4 : decode cX11_takeInput 4 = .ok (.istore_n 2, 1) := by decide +kernel
theorem dX11_takeInput_5 : decode cX11_takeInput 5 = .ok (.aload_n 0, 1) := by decide +kernel
theorem dX11_takeInput_6 : decode cX11_takeInput 6 = .ok (.getfield 7, 3) := by decide +kernel
theorem dX11_takeInput_9 : decode cX11_takeInput 9 = .ok (.iload_n 2, 1) := by decide +kernel
theorem dX11_takeInput_10 : decode cX11_takeInput 10 = .ok (.bipush 54, 2) := by decide +kernel
theorem dX11_takeInput_12 : decode cX11_takeInput 12 = .ok (.iadd, 1) := by decide +kernel
theorem dX11_takeInput_13 : decode cX11_takeInput 13 = .ok (.iaload, 1) := by decide +kernel
theorem dX11_takeInput_14 : decode cX11_takeInput 14 = .ok (.ifCond .ne 5, 3) := by decide +kernel
theorem dX11_takeInput_17 : decode cX11_takeInput 17 = .ok (.iconst 0, 1) := by decide +kernel
theorem dX11_takeInput_18 : decode cX11_takeInput 18 = .ok (.ireturn, 1) := by decide +kernel
theorem dX11_takeInput_19 : decode cX11_takeInput 19 = .ok (.aload_n 0, 1) := by decide +kernel
theorem dX11_takeInput_20 : decode cX11_takeInput 20 = .ok (.getfield 13, 3) := by decide +kernel
theorem dX11_takeInput_23 : decode cX11_takeInput 23 = .ok (.sipush 512, 3) := by decide +kernel
theorem dX11_takeInput_26 : decode cX11_takeInput 26 = .ok (.iload_n 1, 1) := by decide +kernel
theorem dX11_takeInput_27 : decode cX11_takeInput 27 = .ok (.imul, 1) := by decide +kernel
theorem dX11_takeInput_28 : decode cX11_takeInput 28 = .ok (.iaload, 1) := by decide +kernel
theorem dX11_takeInput_29 : decode cX11_takeInput 29 = .ok (.istore_n 3, 1) := by decide +kernel
theorem dX11_takeInput_30 : decode cX11_takeInput 30 = .ok (.aload_n 0, 1) := by decide +kernel
theorem dX11_takeInput_31 : decode cX11_takeInput 31 = .ok (.getfield 7, 3) := by decide +kernel
theorem dX11_takeInput_34 : decode cX11_takeInput 34 = .ok (.iload_n 2, 1) := by decide +kernel
theorem dX11_takeInput_35 : decode cX11_takeInput 35 = .ok (.bipush 54, 2) := by decide +kernel
theorem dX11_takeInput_37 : decode cX11_takeInput 37 = .ok (.iadd, 1) := by decide +kernel
theorem dX11_takeInput_38 : decode cX11_takeInput 38 = .ok (.dup2, 1) := by decide +kernel
theorem dX11_takeInput_39 : decode cX11_takeInput 39 = .ok (.iaload, 1) := by decide +kernel
theorem dX11_takeInput_40 : decode cX11_takeInput 40 = .ok (.iconst 1, 1) := by decide +kernel
theorem dX11_takeInput_41 : decode cX11_takeInput 41 = .ok (.isub, 1) := by decide +kernel
theorem dX11_takeInput_42 : decode cX11_takeInput 42 = .ok (.iastore, 1) := by decide +kernel
theorem dX11_takeInput_43 : decode cX11_takeInput 43 = .ok (.iconst 0, 1) := by decide +kernel
theorem dX11_takeInput_44 : decode cX11_takeInput 44 = .ok (.istore 4, 2) := by decide +kernel
theorem dX11_takeInput_46 : decode cX11_takeInput 46 = .ok (.iload 4, 2) := by decide +kernel
theorem dX11_takeInput_48 : decode cX11_takeInput 48 = .ok (.aload_n 0, 1) := by decide +kernel
theorem dX11_takeInput_49 : decode cX11_takeInput 49 = .ok (.getfield 7, 3) := by decide +kernel
theorem dX11_takeInput_52 : decode cX11_takeInput 52 = .ok (.iload_n 2, 1) := by decide +kernel
theorem dX11_takeInput_53 : decode cX11_takeInput 53 = .ok (.bipush 54, 2) := by decide +kernel
theorem dX11_takeInput_55 : decode cX11_takeInput 55 = .ok (.iadd, 1) := by decide +kernel
theorem dX11_takeInput_56 : decode cX11_takeInput 56 = .ok (.iaload, 1) := by decide +kernel
theorem dX11_takeInput_57 : decode cX11_takeInput 57 = .ok (.if_icmp .ge 37, 3) := by decide +kernel
theorem dX11_takeInput_60 : decode cX11_takeInput 60 = .ok (.aload_n 0, 1) := by decide +kernel
theorem dX11_takeInput_61 : decode cX11_takeInput 61 = .ok (.getfield 13, 3) := by decide +kernel
theorem dX11_takeInput_64 : decode cX11_takeInput 64 = .ok (.sipush 512, 3) := by decide +kernel
theorem dX11_takeInput_67 : decode cX11_takeInput 67 = .ok (.iload_n 1, 1) := by decide +kernel
theorem dX11_takeInput_68 : decode cX11_takeInput 68 = .ok (.imul, 1) := by decide +kernel
theorem dX11_takeInput_69 : decode cX11_takeInput 69 = .ok (.iload 4, 2) := by decide +kernel
theorem dX11_takeInput_71 : decode cX11_takeInput 71 = .ok (.iadd, 1) := by decide +kernel
theorem dX11_takeInput_72 : decode cX11_takeInput 72 = .ok (.aload_n 0, 1) := by decide +kernel
theorem dX11_takeInput_73 : decode cX11_takeInput 73 = .ok (.getfield 13, 3) := by decide +kernel
theorem dX11_takeInput_76 : decode cX11_takeInput 76 = .ok (.sipush 512, 3) := by decide +kernel
theorem dX11_takeInput_79 : decode cX11_takeInput 79 = .ok (.iload_n 1, 1) := by decide +kernel
theorem dX11_takeInput_80 : decode cX11_takeInput 80 = .ok (.imul, 1) := by decide +kernel
theorem dX11_takeInput_81 : decode cX11_takeInput 81 = .ok (.iload 4, 2) := by decide +kernel
theorem dX11_takeInput_83 : decode cX11_takeInput 83 = .ok (.iadd, 1) := by decide +kernel
theorem dX11_takeInput_84 : decode cX11_takeInput 84 = .ok (.iconst 1, 1) := by decide +kernel
theorem dX11_takeInput_85 : decode cX11_takeInput 85 = .ok (.iadd, 1) := by decide +kernel
theorem dX11_takeInput_86 : decode cX11_takeInput 86 = .ok (.iaload, 1) := by decide +kernel
theorem dX11_takeInput_87 : decode cX11_takeInput 87 = .ok (.iastore, 1) := by decide +kernel
theorem dX11_takeInput_88 : decode cX11_takeInput 88 = .ok (.iinc 4 1, 3) := by decide +kernel
theorem dX11_takeInput_91 : decode cX11_takeInput 91 = .ok (.goto (-45), 3) := by decide +kernel
theorem dX11_takeInput_94 : decode cX11_takeInput 94 = .ok (.iload_n 3, 1) := by decide +kernel
theorem dX11_takeInput_95 : decode cX11_takeInput 95 = .ok (.ireturn, 1) := by decide +kernel
theorem dX11_run_0 : decode cX11_run 0 = .ok (.bipush 55, 2) := by decide +kernel
theorem dX11_run_2 : decode cX11_run 2 = .ok (.iload_n 1, 1) := by decide +kernel
theorem dX11_run_3 : decode cX11_run 3 = .ok (.imul, 1) := by decide +kernel
theorem dX11_run_4 : decode cX11_run 4 = .ok (.istore_n 2, 1) := by decide +kernel
theorem dX11_run_5 : decode cX11_run 5 = .ok (.aload_n 0, 1) := by decide +kernel
theorem dX11_run_6 : decode cX11_run 6 = .ok (.getfield 77, 3) := by decide +kernel
theorem dX11_run_9 : decode cX11_run 9 = .ok (.iload_n 1, 1) := by decide +kernel
theorem dX11_run_10 : decode cX11_run 10 = .ok (.dup2, 1) := by decide +kernel
theorem dX11_run_11 : decode cX11_run 11 = .ok (.iaload, 1) := by decide +kernel
theorem dX11_run_12 : decode cX11_run 12 = .ok (.iconst 1, 1) := by decide +kernel
theorem dX11_run_13 : decode cX11_run 13 = .ok (.iadd, 1) := by decide +kernel
theorem dX11_run_14 : decode cX11_run 14 = .ok (.iastore, 1) := by decide +kernel
theorem dX11_run_15 : decode cX11_run 15 = .ok (.aload_n 0, 1) := by decide +kernel
theorem dX11_run_16 : decode cX11_run 16 = .ok (.getfield 7, 3) := by decide +kernel
theorem dX11_run_19 : decode cX11_run 19 = .ok (.iload_n 2, 1) := by decide +kernel
theorem dX11_run_20 : decode cX11_run 20 = .ok (.bipush 51, 2) := by decide +kernel
theorem dX11_run_22 : decode cX11_run 22 = .ok (.iadd, 1) := by decide +kernel
theorem dX11_run_23 : decode cX11_run 23 = .ok (.iaload, 1) := by decide +kernel
theorem dX11_run_24 : decode cX11_run 24 = .ok (.iconst 1, 1) := by decide +kernel
theorem dX11_run_25 : decode cX11_run 25 = .ok (.if_icmp .eq 16, 3) := by decide +kernel
theorem dX11_run_28 : decode cX11_run 28 = .ok (.aload_n 0, 1) := by decide +kernel
theorem dX11_run_29 : decode cX11_run 29 = .ok (.getfield 7, 3) := by decide +kernel
theorem dX11_run_32 : decode cX11_run 32 = .ok (.iload_n 2, 1) := by decide +kernel
theorem dX11_run_33 : decode cX11_run 33 = .ok (.bipush 52, 2) := by decide +kernel
theorem dX11_run_35 : decode cX11_run 35 = .ok (.iadd, 1) := by decide +kernel
theorem dX11_run_36 : decode cX11_run 36 = .ok (.iaload, 1) := by decide +kernel
theorem dX11_run_37 : decode cX11_run 37 = .ok (.iconst 1, 1) := by decide +kernel
theorem dX11_run_38 : decode cX11_run 38 = .ok (.if_icmp .ne 7, 3) := by decide +kernel
theorem dX11_run_41 : decode cX11_run 41 = .ok (.iconst 1, 1) := by decide +kernel
theorem dX11_run_42 : decode cX11_run 42 = .ok (.goto 4, 3) := by decide +kernel
theorem dX11_run_45 : decode cX11_run 45 = .ok (.iconst 0, 1) := by decide +kernel
theorem dX11_run_46 : decode cX11_run 46 = .ok (.istore_n 3, 1) := by decide +kernel
theorem dX11_run_47 : decode cX11_run 47 = .ok (.iload_n 3, 1) := by decide +kernel
theorem dX11_run_48 : decode cX11_run 48 = .ok (.ifCond .eq 91, 3) := by decide +kernel
theorem dX11_run_51 : decode cX11_run 51 = .ok (.aload_n 0, 1) := by decide +kernel
theorem dX11_run_52 : decode cX11_run 52 = .ok (.getfield 7, 3) := by decide +kernel
theorem dX11_run_55 : decode cX11_run 55 = .ok (.iload_n 2, 1) := by decide +kernel
theorem dX11_run_56 : decode cX11_run 56 = .ok (.bipush 8, 2) := by decide +kernel
theorem dX11_run_58 : decode cX11_run 58 = .ok (.iadd, 1) := by decide +kernel
theorem dX11_run_59 : decode cX11_run 59 = .ok (.iaload, 1) := by decide +kernel
theorem dX11_run_60 : decode cX11_run 60 = .ok (.ifCond .ne 79, 3) := by decide +kernel
theorem dX11_run_63 : decode cX11_run 63 = .ok (.aload_n 0, 1) := by decide +kernel
theorem dX11_run_64 : decode cX11_run 64 = .ok (.getfield 7, 3) := by decide +kernel
theorem dX11_run_67 : decode cX11_run 67 = .ok (.iload_n 2, 1) := by decide +kernel
theorem dX11_run_68 : decode cX11_run 68 = .ok (.iconst 5, 1) := by decide +kernel
theorem dX11_run_69 : decode cX11_run 69 = .ok (.iadd, 1) := by decide +kernel
theorem dX11_run_70 : decode cX11_run 70 = .ok (.iaload, 1) := by decide +kernel
theorem dX11_run_71 : decode cX11_run 71 = .ok (.iconst (-1), 1) := by decide +kernel
theorem dX11_run_72 : decode cX11_run 72 = .ok (.if_icmp .eq 67, 3) := by decide +kernel
theorem dX11_run_75 : decode cX11_run 75 = .ok (.aload_n 0, 1) := by decide +kernel
theorem dX11_run_76 : decode cX11_run 76 = .ok (.getfield 7, 3) := by decide +kernel
theorem dX11_run_79 : decode cX11_run 79 = .ok (.iload_n 2, 1) := by decide +kernel
theorem dX11_run_80 : decode cX11_run 80 = .ok (.bipush 51, 2) := by decide +kernel
theorem dX11_run_82 : decode cX11_run 82 = .ok (.iadd, 1) := by decide +kernel
theorem dX11_run_83 : decode cX11_run 83 = .ok (.iaload, 1) := by decide +kernel
theorem dX11_run_84 : decode cX11_run 84 = .ok (.iconst 1, 1) := by decide +kernel
theorem dX11_run_85 : decode cX11_run 85 = .ok (.if_icmp .ne 8, 3) := by decide +kernel
theorem dX11_run_88 : decode cX11_run 88 = .ok (.bipush 51, 2) := by decide +kernel
theorem dX11_run_90 : decode cX11_run 90 = .ok (.goto 5, 3) := by decide +kernel
theorem dX11_run_93 : decode cX11_run 93 = .ok (.bipush 52, 2) := by decide +kernel
theorem dX11_run_95 : decode cX11_run 95 = .ok (.istore 4, 2) := by decide +kernel
theorem dX11_run_97 : decode cX11_run 97 = .ok (.aload_n 0, 1) := by decide +kernel
theorem dX11_run_98 : decode cX11_run 98 = .ok (.getfield 7, 3) := by decide +kernel
theorem dX11_run_101 : decode cX11_run 101 = .ok (.iload_n 2, 1) := by decide +kernel
theorem dX11_run_102 : decode cX11_run 102 = .ok (.iload 4, 2) := by decide +kernel
theorem dX11_run_104 : decode cX11_run 104 = .ok (.iadd, 1) := by decide +kernel
theorem dX11_run_105 : decode cX11_run 105 = .ok (.iconst 0, 1) := by decide +kernel
theorem dX11_run_106 : decode cX11_run 106 = .ok (.iastore, 1) := by decide +kernel
theorem dX11_run_107 : decode cX11_run 107 = .ok (.aload_n 0, 1) := by decide +kernel
theorem dX11_run_108 : decode cX11_run 108 = .ok (.getfield 80, 3) := by decide +kernel
theorem dX11_run_111 : decode cX11_run 111 = .ok (.bipush 6, 2) := by decide +kernel
theorem dX11_run_113 : decode cX11_run 113 = .ok (.iload_n 1, 1) := by decide +kernel
theorem dX11_run_114 : decode cX11_run 114 = .ok (.imul, 1) := by decide +kernel
theorem dX11_run_115 : decode cX11_run 115 = .ok (.iconst 5, 1) := by decide +kernel
theorem dX11_run_116 : decode cX11_run 116 = .ok (.iadd, 1) := by decide +kernel
theorem dX11_run_117 : decode cX11_run 117 = .ok (.dup2, 1) := by decide +kernel
theorem dX11_run_118 : decode cX11_run 118 = .ok (.iaload, 1) := by decide +kernel
theorem dX11_run_119 : decode cX11_run 119 = .ok (.iconst 1, 1) := by decide +kernel
theorem dX11_run_120 : decode cX11_run 120 = .ok (.iadd, 1) := by decide +kernel
theorem dX11_run_121 : decode cX11_run 121 = .ok (.iastore, 1) := by decide +kernel
theorem dX11_run_122 : decode cX11_run 122 = .ok (.aload_n 0, 1) := by decide +kernel
theorem dX11_run_123 : decode cX11_run 123 = .ok (.iload_n 1, 1) := by decide +kernel
theorem dX11_run_124 : decode cX11_run 124 = .ok (.iload 4, 2) := by decide +kernel
theorem dX11_run_126 : decode cX11_run 126 = .ok (.bipush 51, 2) := by decide +kernel
theorem dX11_run_128 : decode cX11_run 128 = .ok (.if_icmp .ne 7, 3) := by decide +kernel
theorem dX11_run_131 : decode cX11_run 131 = .ok (.iconst 2, 1) := by decide +kernel
theorem dX11_run_132 : decode cX11_run 132 = .ok (.goto 4, 3) := by decide +kernel
theorem dX11_run_135 : decode cX11_run 135 = .ok (.iconst 3, 1) := by decide +kernel
theorem dX11_run_136 : decode cX11_run 136 = .ok (.invokevirtual 153, 3) := by decide +kernel
theorem dX11_run_139 : decode cX11_run 139 = .ok (.aload_n 0, 1) := by decide +kernel
theorem dX11_run_140 : decode cX11_run 140 = .ok (.getfield 7, 3) := by decide +kernel
theorem dX11_run_143 : decode cX11_run 143 = .ok (.iload_n 2, 1) := by decide +kernel
theorem dX11_run_144 : decode cX11_run 144 = .ok (.iconst 4, 1) := by decide +kernel
theorem dX11_run_145 : decode cX11_run 145 = .ok (.iadd, 1) := by decide +kernel
theorem dX11_run_146 : decode cX11_run 146 = .ok (.iaload, 1) := by decide +kernel
theorem dX11_run_147 : decode cX11_run 147 = .ok (.istore 4, 2) := by decide +kernel
theorem dX11_run_149 : decode cX11_run 149 = .ok (.iload 4, 2) := by decide +kernel
theorem dX11_run_151 : decode cX11_run 151 = .ok (.aload_n 0, 1) := by decide +kernel
theorem dX11_run_152 : decode cX11_run 152 = .ok (.getfield 46, 3) := by decide +kernel
theorem dX11_run_155 : decode cX11_run 155 = .ok (.iload_n 1, 1) := by decide +kernel
theorem dX11_run_156 : decode cX11_run 156 = .ok (.iaload, 1) := by decide +kernel
theorem dX11_run_157 : decode cX11_run 157 = .ok (.if_icmp .lt 14, 3) := by decide +kernel
theorem dX11_run_160 : decode cX11_run 160 = .ok (.aload_n 0, 1) := by decide +kernel
theorem dX11_run_161 : decode cX11_run 161 = .ok (.getfield 7, 3) := by decide +kernel
theorem dX11_run_164 : decode cX11_run 164 = .ok (.iload_n 2, 1) := by decide +kernel
theorem dX11_run_165 : decode cX11_run 165 = .ok (.bipush 49, 2) := by decide +kernel
theorem dX11_run_167 : decode cX11_run 167 = .ok (.iadd, 1) := by decide +kernel
theorem dX11_run_168 : decode cX11_run 168 = .ok (.iconst 2, 1) := by decide +kernel
theorem dX11_run_169 : decode cX11_run 169 = .ok (.iastore, 1) := by decide +kernel
theorem dX11_run_170 : decode cX11_run 170 = .ok (.return_, 1) := by decide +kernel
theorem dX11_run_171 : decode cX11_run 171 = .ok (.aload_n 0, 1) := by decide +kernel
theorem dX11_run_172 : decode cX11_run 172 = .ok (.iload_n 1, 1) := by decide +kernel
theorem dX11_run_173 : decode cX11_run 173 = .ok (.aload_n 0, 1) := by decide +kernel
theorem dX11_run_174 : decode cX11_run 174 = .ok (.getfield 43, 3) := by decide +kernel
theorem dX11_run_177 : decode cX11_run 177 = .ok (.bipush 72, 2) := by decide +kernel
theorem dX11_run_179 : decode cX11_run 179 = .ok (.iload_n 1, 1) := by decide +kernel
theorem dX11_run_180 : decode cX11_run 180 = .ok (.imul, 1) := by decide +kernel
theorem dX11_run_181 : decode cX11_run 181 = .ok (.iconst 3, 1) := by decide +kernel
theorem dX11_run_182 : decode cX11_run 182 = .ok (.iload 4, 2) := by decide +kernel
theorem dX11_run_184 : decode cX11_run 184 = .ok (.imul, 1) := by decide +kernel
theorem dX11_run_185 : decode cX11_run 185 = .ok (.iadd, 1) := by decide +kernel
theorem dX11_run_186 : decode cX11_run 186 = .ok (.iaload, 1) := by decide +kernel
theorem dX11_run_187 : decode cX11_run 187 = .ok (.aload_n 0, 1) := by decide +kernel
theorem dX11_run_188 : decode cX11_run 188 = .ok (.getfield 43, 3) := by decide +kernel
theorem dX11_run_191 : decode cX11_run 191 = .ok (.bipush 72, 2) := by decide +kernel
theorem dX11_run_193 : decode cX11_run 193 = .ok (.iload_n 1, 1) := by decide +kernel
theorem dX11_run_194 : decode cX11_run 194 = .ok (.imul, 1) := by decide +kernel
theorem dX11_run_195 : decode cX11_run 195 = .ok (.iconst 3, 1) := by decide +kernel
theorem dX11_run_196 : decode cX11_run 196 = .ok (.iload 4, 2) := by decide +kernel
theorem dX11_run_198 : decode cX11_run 198 = .ok (.imul, 1) := by decide +kernel
theorem dX11_run_199 : decode cX11_run 199 = .ok (.iadd, 1) := by decide +kernel
theorem dX11_run_200 : decode cX11_run 200 = .ok (.iconst 1, 1) := by decide +kernel
theorem dX11_run_201 : decode cX11_run 201 = .ok (.iadd, 1) := by decide +kernel
theorem dX11_run_202 : decode cX11_run 202 = .ok (.iaload, 1) := by decide +kernel
theorem dX11_run_203 : decode cX11_run 203 = .ok (.aload_n 0, 1) := by decide +kernel
theorem dX11_run_204 : decode cX11_run 204 = .ok (.getfield 43, 3) := by decide +kernel
theorem dX11_run_207 : decode cX11_run 207 = .ok (.bipush 72, 2) := by decide +kernel
theorem dX11_run_209 : decode cX11_run 209 = .ok (.iload_n 1, 1) := by decide +kernel
theorem dX11_run_210 : decode cX11_run 210 = .ok (.imul, 1) := by decide +kernel
theorem dX11_run_211 : decode cX11_run 211 = .ok (.iconst 3, 1) := by decide +kernel
theorem dX11_run_212 : decode cX11_run 212 = .ok (.iload 4, 2) := by decide +kernel
theorem dX11_run_214 : decode cX11_run 214 = .ok (.imul, 1) := by decide +kernel
theorem dX11_run_215 : decode cX11_run 215 = .ok (.iadd, 1) := by decide +kernel
theorem dX11_run_216 : decode cX11_run 216 = .ok (.iconst 2, 1) := by decide +kernel
theorem dX11_run_217 : decode cX11_run 217 = .ok (.iadd, 1) := by decide +kernel
theorem dX11_run_218 : decode cX11_run 218 = .ok (.iaload, 1) := by decide +kernel
theorem dX11_run_219 : decode cX11_run 219 = .ok (.invokevirtual 157, 3) := by decide +kernel
theorem dX11_run_222 : decode cX11_run 222 = .ok (.return_, 1) := by decide +kernel
theorem dX11_doOne_0 : decode cX11_doOne 0 = .ok (.bipush 55, 2) := by decide +kernel
theorem dX11_doOne_2 : decode cX11_doOne 2 = .ok (.iload_n 1, 1) := by decide +kernel
theorem dX11_doOne_3 : decode cX11_doOne 3 = .ok (.imul, 1) := by decide +kernel
theorem dX11_doOne_4 : decode cX11_doOne 4 = .ok (.istore 5, 2) := by decide +kernel
theorem dX11_doOne_6 : decode cX11_doOne 6 = .ok (.aload_n 0, 1) := by decide +kernel
theorem dX11_doOne_7 : decode cX11_doOne 7 = .ok (.getfield 7, 3) := by decide +kernel
theorem dX11_doOne_10 : decode cX11_doOne 10 = .ok (.iload 5, 2) := by decide +kernel
theorem dX11_doOne_12 : decode cX11_doOne 12 = .ok (.iconst 4, 1) := by decide +kernel
theorem dX11_doOne_13 : decode cX11_doOne 13 = .ok (.iadd, 1) := by decide +kernel
theorem dX11_doOne_14 : decode cX11_doOne 14 = .ok (.iaload, 1) := by decide +kernel
theorem dX11_doOne_15 : decode cX11_doOne 15 = .ok (.iconst 1, 1) := by decide +kernel
theorem dX11_doOne_16 : decode cX11_doOne 16 = .ok (.iadd, 1) := by decide +kernel
theorem dX11_doOne_17 : decode cX11_doOne 17 = .ok (.istore 6, 2) := by decide +kernel
theorem dX11_doOne_19 : decode cX11_doOne 19 = .ok (.iload_n 2, 1) := by decide +kernel
theorem dX11_doOne_20 : decode cX11_doOne 20 = .ok (.tableswitch 434 0 7 #[48, 62, 98, 98, 236, 260, 288, 370], 48) := by decide +kernel
theorem dX11_doOne_68 : decode cX11_doOne 68 = .ok (.aload_n 0, 1) := by decide +kernel
theorem dX11_doOne_69 : decode cX11_doOne 69 = .ok (.getfield 7, 3) := by decide +kernel
theorem dX11_doOne_72 : decode cX11_doOne 72 = .ok (.iload 5, 2) := by decide +kernel
theorem dX11_doOne_74 : decode cX11_doOne 74 = .ok (.iload_n 3, 1) := by decide +kernel
theorem dX11_doOne_75 : decode cX11_doOne 75 = .ok (.iadd, 1) := by decide +kernel
theorem dX11_doOne_76 : decode cX11_doOne 76 = .ok (.iload 4, 2) := by decide +kernel
theorem dX11_doOne_78 : decode cX11_doOne 78 = .ok (.iastore, 1) := by decide +kernel
theorem dX11_doOne_79 : decode cX11_doOne 79 = .ok (.goto 387, 3) := by decide +kernel
theorem dX11_doOne_82 : decode cX11_doOne 82 = .ok (.aload_n 0, 1) := by decide +kernel
theorem dX11_doOne_83 : decode cX11_doOne 83 = .ok (.getfield 7, 3) := by decide +kernel
theorem dX11_doOne_86 : decode cX11_doOne 86 = .ok (.iload 5, 2) := by decide +kernel
theorem dX11_doOne_88 : decode cX11_doOne 88 = .ok (.iload_n 3, 1) := by decide +kernel
theorem dX11_doOne_89 : decode cX11_doOne 89 = .ok (.iadd, 1) := by decide +kernel
theorem dX11_doOne_90 : decode cX11_doOne 90 = .ok (.aload_n 0, 1) := by decide +kernel
theorem dX11_doOne_91 : decode cX11_doOne 91 = .ok (.getfield 7, 3) := by decide +kernel
theorem dX11_doOne_94 : decode cX11_doOne 94 = .ok (.iload 5, 2) := by decide +kernel
theorem dX11_doOne_96 : decode cX11_doOne 96 = .ok (.iload_n 3, 1) := by decide +kernel
theorem dX11_doOne_97 : decode cX11_doOne 97 = .ok (.iadd, 1) := by decide +kernel
theorem dX11_doOne_98 : decode cX11_doOne 98 = .ok (.iaload, 1) := by decide +kernel
theorem dX11_doOne_99 : decode cX11_doOne 99 = .ok (.aload_n 0, 1) := by decide +kernel
theorem dX11_doOne_100 : decode cX11_doOne 100 = .ok (.getfield 7, 3) := by decide +kernel
theorem dX11_doOne_103 : decode cX11_doOne 103 = .ok (.iload 5, 2) := by decide +kernel
theorem dX11_doOne_105 : decode cX11_doOne 105 = .ok (.iload 4, 2) := by decide +kernel
theorem dX11_doOne_107 : decode cX11_doOne 107 = .ok (.iadd, 1) := by decide +kernel
theorem dX11_doOne_108 : decode cX11_doOne 108 = .ok (.iaload, 1) := by decide +kernel
theorem dX11_doOne_109 : decode cX11_doOne 109 = .ok (.iadd, 1) := by decide +kernel
theorem dX11_doOne_110 : decode cX11_doOne 110 = .ok (.sipush 10000, 3) := by decide +kernel
theorem dX11_doOne_113 : decode cX11_doOne 113 = .ok (.irem, 1) := by decide +kernel
theorem dX11_doOne_114 : decode cX11_doOne 114 = .ok (.iastore, 1) := by decide +kernel
theorem dX11_doOne_115 : decode cX11_doOne 115 = .ok (.goto 351, 3) := by decide +kernel
theorem dX11_doOne_118 : decode cX11_doOne 118 = .ok (.aload_n 0, 1) := by decide +kernel
theorem dX11_doOne_119 : decode cX11_doOne 119 = .ok (.getfield 7, 3) := by decide +kernel
theorem dX11_doOne_122 : decode cX11_doOne 122 = .ok (.iload 5, 2) := by decide +kernel
theorem dX11_doOne_124 : decode cX11_doOne 124 = .ok (.iload 4, 2) := by decide +kernel
theorem dX11_doOne_126 : decode cX11_doOne 126 = .ok (.iadd, 1) := by decide +kernel
theorem dX11_doOne_127 : decode cX11_doOne 127 = .ok (.iaload, 1) := by decide +kernel
theorem dX11_doOne_128 : decode cX11_doOne 128 = .ok (.istore 7, 2) := by decide +kernel
theorem dX11_doOne_130 : decode cX11_doOne 130 = .ok (.iload 7, 2) := by decide +kernel
theorem dX11_doOne_132 : decode cX11_doOne 132 = .ok (.bipush 31, 2) := by decide +kernel
theorem dX11_doOne_134 : decode cX11_doOne 134 = .ok (.if_icmp .gt 22, 3) := by decide +kernel
theorem dX11_doOne_137 : decode cX11_doOne 137 = .ok (.aload_n 0, 1) := by decide +kernel
theorem dX11_doOne_138 : decode cX11_doOne 138 = .ok (.getfield 7, 3) := by decide +kernel
theorem dX11_doOne_141 : decode cX11_doOne 141 = .ok (.iload 5, 2) := by decide +kernel
theorem dX11_doOne_143 : decode cX11_doOne 143 = .ok (.bipush 9, 2) := by decide +kernel
theorem dX11_doOne_145 : decode cX11_doOne 145 = .ok (.iadd, 1) := by decide +kernel
theorem dX11_doOne_146 : decode cX11_doOne 146 = .ok (.iload 7, 2) := by decide +kernel
theorem dX11_doOne_148 : decode cX11_doOne 148 = .ok (.iconst 4, 1) := by decide +kernel
theorem dX11_doOne_149 : decode cX11_doOne 149 = .ok (.idiv, 1) := by decide +kernel
theorem dX11_doOne_150 : decode cX11_doOne 150 = .ok (.iadd, 1) := by decide +kernel
theorem dX11_doOne_151 : decode cX11_doOne 151 = .ok (.iaload, 1) := by decide +kernel
theorem dX11_doOne_152 : decode cX11_doOne 152 = .ok (.iconst (-1), 1) := by decide +kernel
theorem dX11_doOne_153 : decode cX11_doOne 153 = .ok (.if_icmp .ne 9, 3) := by decide +kernel
theorem dX11_doOne_156 : decode cX11_doOne 156 = .ok (.aload_n 0, 1) := by decide +kernel
theorem dX11_doOne_157 : decode cX11_doOne 157 = .ok (.iload_n 1, 1) := by decide +kernel
theorem dX11_doOne_158 : decode cX11_doOne 158 = .ok (.invokevirtual 161, 3) := by decide +kernel
theorem dX11_doOne_161 : decode cX11_doOne 161 = .ok (.return_, 1) := by decide +kernel
theorem dX11_doOne_162 : decode cX11_doOne 162 = .ok (.aload_n 0, 1) := by decide +kernel
theorem dX11_doOne_163 : decode cX11_doOne 163 = .ok (.getfield 7, 3) := by decide +kernel
theorem dX11_doOne_166 : decode cX11_doOne 166 = .ok (.iload 5, 2) := by decide +kernel
theorem dX11_doOne_168 : decode cX11_doOne 168 = .ok (.bipush 9, 2) := by decide +kernel
theorem dX11_doOne_170 : decode cX11_doOne 170 = .ok (.iadd, 1) := by decide +kernel
theorem dX11_doOne_171 : decode cX11_doOne 171 = .ok (.iload 7, 2) := by decide +kernel
theorem dX11_doOne_173 : decode cX11_doOne 173 = .ok (.iconst 4, 1) := by decide +kernel
theorem dX11_doOne_174 : decode cX11_doOne 174 = .ok (.idiv, 1) := by decide +kernel
theorem dX11_doOne_175 : decode cX11_doOne 175 = .ok (.iadd, 1) := by decide +kernel
theorem dX11_doOne_176 : decode cX11_doOne 176 = .ok (.iaload, 1) := by decide +kernel
theorem dX11_doOne_177 : decode cX11_doOne 177 = .ok (.istore 8, 2) := by decide +kernel
theorem dX11_doOne_179 : decode cX11_doOne 179 = .ok (.aload_n 0, 1) := by decide +kernel
theorem dX11_doOne_180 : decode cX11_doOne 180 = .ok (.iload_n 1, 1) := by decide +kernel
theorem dX11_doOne_181 : decode cX11_doOne 181 = .ok (.iload 8, 2) := by decide +kernel
theorem dX11_doOne_183 : decode cX11_doOne 183 = .ok (.iload_n 2, 1) := by decide +kernel
theorem dX11_doOne_184 : decode cX11_doOne 184 = .ok (.iconst 3, 1) := by decide +kernel
theorem dX11_doOne_185 : decode cX11_doOne 185 = .ok (.if_icmp .ne 7, 3) := by decide +kernel
theorem dX11_doOne_188 : decode cX11_doOne 188 = .ok (.iconst 1, 1) := by decide +kernel
theorem dX11_doOne_189 : decode cX11_doOne 189 = .ok (.goto 4, 3) := by decide +kernel
theorem dX11_doOne_192 : decode cX11_doOne 192 = .ok (.iconst 0, 1) := by decide +kernel
theorem dX11_doOne_193 : decode cX11_doOne 193 = .ok (.invokevirtual 165, 3) := by decide +kernel
theorem dX11_doOne_196 : decode cX11_doOne 196 = .ok (.iload 5, 2) := by decide +kernel
theorem dX11_doOne_198 : decode cX11_doOne 198 = .ok (.bipush 17, 2) := by decide +kernel
theorem dX11_doOne_200 : decode cX11_doOne 200 = .ok (.iadd, 1) := by decide +kernel
theorem dX11_doOne_201 : decode cX11_doOne 201 = .ok (.iconst 4, 1) := by decide +kernel
theorem dX11_doOne_202 : decode cX11_doOne 202 = .ok (.iload 8, 2) := by decide +kernel
theorem dX11_doOne_204 : decode cX11_doOne 204 = .ok (.imul, 1) := by decide +kernel
theorem dX11_doOne_205 : decode cX11_doOne 205 = .ok (.iadd, 1) := by decide +kernel
theorem dX11_doOne_206 : decode cX11_doOne 206 = .ok (.iload 7, 2) := by decide +kernel
theorem dX11_doOne_208 : decode cX11_doOne 208 = .ok (.iconst 4, 1) := by decide +kernel
theorem dX11_doOne_209 : decode cX11_doOne 209 = .ok (.irem, 1) := by decide +kernel
theorem dX11_doOne_210 : decode cX11_doOne 210 = .ok (.iadd, 1) := by decide +kernel
theorem dX11_doOne_211 : decode cX11_doOne 211 = .ok (.istore 9, 2) := by decide +kernel
theorem dX11_doOne_213 : decode cX11_doOne 213 = .ok (.iload_n 2, 1) := by decide +kernel
theorem dX11_doOne_214 : decode cX11_doOne 214 = .ok (.iconst 2, 1) := by decide +kernel
theorem dX11_doOne_215 : decode cX11_doOne 215 = .ok (.if_icmp .ne 22, 3) := by decide +kernel
theorem dX11_doOne_218 : decode cX11_doOne 218 = .ok (.aload_n 0, 1) := by decide +kernel
theorem dX11_doOne_219 : decode cX11_doOne 219 = .ok (.getfield 7, 3) := by decide +kernel
theorem dX11_doOne_222 : decode cX11_doOne 222 = .ok (.iload 5, 2) := by decide +kernel
theorem dX11_doOne_224 : decode cX11_doOne 224 = .ok (.iload_n 3, 1) := by decide +kernel
theorem dX11_doOne_225 : decode cX11_doOne 225 = .ok (.iadd, 1) := by decide +kernel
theorem dX11_doOne_226 : decode cX11_doOne 226 = .ok (.aload_n 0, 1) := by decide +kernel
theorem dX11_doOne_227 : decode cX11_doOne 227 = .ok (.getfield 7, 3) := by decide +kernel
theorem dX11_doOne_230 : decode cX11_doOne 230 = .ok (.iload 9, 2) := by decide +kernel
theorem dX11_doOne_232 : decode cX11_doOne 232 = .ok (.iaload, 1) := by decide +kernel
theorem dX11_doOne_233 : decode cX11_doOne 233 = .ok (.iastore, 1) := by decide +kernel
theorem dX11_doOne_234 : decode cX11_doOne 234 = .ok (.goto 232, 3) := by decide +kernel
theorem dX11_doOne_237 : decode cX11_doOne 237 = .ok (.aload_n 0, 1) := by decide +kernel
theorem dX11_doOne_238 : decode cX11_doOne 238 = .ok (.getfield 7, 3) := by decide +kernel
theorem dX11_doOne_241 : decode cX11_doOne 241 = .ok (.iload 9, 2) := by decide +kernel
theorem dX11_doOne_243 : decode cX11_doOne 243 = .ok (.aload_n 0, 1) := by decide +kernel
theorem dX11_doOne_244 : decode cX11_doOne 244 = .ok (.getfield 7, 3) := by decide +kernel
theorem dX11_doOne_247 : decode cX11_doOne 247 = .ok (.iload 5, 2) := by decide +kernel
theorem dX11_doOne_249 : decode cX11_doOne 249 = .ok (.iload_n 3, 1) := by decide +kernel
theorem dX11_doOne_250 : decode cX11_doOne 250 = .ok (.iadd, 1) := by decide +kernel
theorem dX11_doOne_251 : decode cX11_doOne 251 = .ok (.iaload, 1) := by decide +kernel
theorem dX11_doOne_252 : decode cX11_doOne 252 = .ok (.iastore, 1) := by decide +kernel
theorem dX11_doOne_253 : decode cX11_doOne 253 = .ok (.goto 213, 3) := by decide +kernel
theorem dX11_doOne_256 : decode cX11_doOne 256 = .ok (.aload_n 0, 1) := by decide +kernel
theorem dX11_doOne_257 : decode cX11_doOne 257 = .ok (.getfield 7, 3) := by decide +kernel
theorem dX11_doOne_260 : decode cX11_doOne 260 = .ok (.iload 5, 2) := by decide +kernel
theorem dX11_doOne_262 : decode cX11_doOne 262 = .ok (.iload_n 3, 1) := by decide +kernel
theorem dX11_doOne_263 : decode cX11_doOne 263 = .ok (.iadd, 1) := by decide +kernel
theorem dX11_doOne_264 : decode cX11_doOne 264 = .ok (.iaload, 1) := by decide +kernel
theorem dX11_doOne_265 : decode cX11_doOne 265 = .ok (.ifCond .eq 8, 3) := by decide +kernel
theorem dX11_doOne_268 : decode cX11_doOne 268 = .ok (.iload 4, 2) := by decide +kernel
theorem dX11_doOne_270 : decode cX11_doOne 270 = .ok (.goto 5, 3) := by decide +kernel
theorem dX11_doOne_273 : decode cX11_doOne 273 = .ok (.iload 6, 2) := by decide +kernel
theorem dX11_doOne_275 : decode cX11_doOne 275 = .ok (.istore 6, 2) := by decide +kernel
theorem dX11_doOne_277 : decode cX11_doOne 277 = .ok (.goto 189, 3) := by decide +kernel
theorem dX11_doOne_280 : decode cX11_doOne 280 = .ok (.aload_n 0, 1) := by decide +kernel
theorem dX11_doOne_281 : decode cX11_doOne 281 = .ok (.getfield 7, 3) := by decide +kernel
theorem dX11_doOne_284 : decode cX11_doOne 284 = .ok (.iload 5, 2) := by decide +kernel
theorem dX11_doOne_286 : decode cX11_doOne 286 = .ok (.bipush 9, 2) := by decide +kernel
theorem dX11_doOne_288 : decode cX11_doOne 288 = .ok (.iadd, 1) := by decide +kernel
theorem dX11_doOne_289 : decode cX11_doOne 289 = .ok (.iload_n 3, 1) := by decide +kernel
theorem dX11_doOne_290 : decode cX11_doOne 290 = .ok (.iadd, 1) := by decide +kernel
theorem dX11_doOne_291 : decode cX11_doOne 291 = .ok (.iload 4, 2) := by decide +kernel
theorem dX11_doOne_293 : decode cX11_doOne 293 = .ok (.bipush 8, 2) := by decide +kernel
theorem dX11_doOne_295 : decode cX11_doOne 295 = .ok (.if_icmp .ne 7, 3) := by decide +kernel
theorem dX11_doOne_298 : decode cX11_doOne 298 = .ok (.iconst (-1), 1) := by decide +kernel
theorem dX11_doOne_299 : decode cX11_doOne 299 = .ok (.goto 5, 3) := by decide +kernel
theorem dX11_doOne_302 : decode cX11_doOne 302 = .ok (.iload 4, 2) := by decide +kernel
theorem dX11_doOne_304 : decode cX11_doOne 304 = .ok (.iastore, 1) := by decide +kernel
theorem dX11_doOne_305 : decode cX11_doOne 305 = .ok (.goto 161, 3) := by decide +kernel
theorem dX11_doOne_308 : decode cX11_doOne 308 = .ok (.aload_n 0, 1) := by decide +kernel
theorem dX11_doOne_309 : decode cX11_doOne 309 = .ok (.getfield 80, 3) := by decide +kernel
theorem dX11_doOne_312 : decode cX11_doOne 312 = .ok (.bipush 6, 2) := by decide +kernel
theorem dX11_doOne_314 : decode cX11_doOne 314 = .ok (.iload_n 1, 1) := by decide +kernel
theorem dX11_doOne_315 : decode cX11_doOne 315 = .ok (.imul, 1) := by decide +kernel
theorem dX11_doOne_316 : decode cX11_doOne 316 = .ok (.iconst 3, 1) := by decide +kernel
theorem dX11_doOne_317 : decode cX11_doOne 317 = .ok (.iadd, 1) := by decide +kernel
theorem dX11_doOne_318 : decode cX11_doOne 318 = .ok (.dup2, 1) := by decide +kernel
theorem dX11_doOne_319 : decode cX11_doOne 319 = .ok (.iaload, 1) := by decide +kernel
theorem dX11_doOne_320 : decode cX11_doOne 320 = .ok (.iconst 1, 1) := by decide +kernel
theorem dX11_doOne_321 : decode cX11_doOne 321 = .ok (.iadd, 1) := by decide +kernel
theorem dX11_doOne_322 : decode cX11_doOne 322 = .ok (.iastore, 1) := by decide +kernel
theorem dX11_doOne_323 : decode cX11_doOne 323 = .ok (.iload 4, 2) := by decide +kernel
theorem dX11_doOne_325 : decode cX11_doOne 325 = .ok (.ifCond .ne 20, 3) := by decide +kernel
theorem dX11_doOne_328 : decode cX11_doOne 328 = .ok (.aload_n 0, 1) := by decide +kernel
theorem dX11_doOne_329 : decode cX11_doOne 329 = .ok (.iload_n 1, 1) := by decide +kernel
theorem dX11_doOne_330 : decode cX11_doOne 330 = .ok (.aload_n 0, 1) := by decide +kernel
theorem dX11_doOne_331 : decode cX11_doOne 331 = .ok (.getfield 7, 3) := by decide +kernel
theorem dX11_doOne_334 : decode cX11_doOne 334 = .ok (.iload 5, 2) := by decide +kernel
theorem dX11_doOne_336 : decode cX11_doOne 336 = .ok (.iload_n 3, 1) := by decide +kernel
theorem dX11_doOne_337 : decode cX11_doOne 337 = .ok (.iadd, 1) := by decide +kernel
theorem dX11_doOne_338 : decode cX11_doOne 338 = .ok (.iaload, 1) := by decide +kernel
theorem dX11_doOne_339 : decode cX11_doOne 339 = .ok (.invokevirtual 169, 3) := by decide +kernel
theorem dX11_doOne_342 : decode cX11_doOne 342 = .ok (.goto 124, 3) := by decide +kernel
theorem dX11_doOne_345 : decode cX11_doOne 345 = .ok (.aload_n 0, 1) := by decide +kernel
theorem dX11_doOne_346 : decode cX11_doOne 346 = .ok (.getfield 7, 3) := by decide +kernel
theorem dX11_doOne_349 : decode cX11_doOne 349 = .ok (.iload 5, 2) := by decide +kernel
theorem dX11_doOne_351 : decode cX11_doOne 351 = .ok (.bipush 50, 2) := by decide +kernel
theorem dX11_doOne_353 : decode cX11_doOne 353 = .ok (.iadd, 1) := by decide +kernel
theorem dX11_doOne_354 : decode cX11_doOne 354 = .ok (.aload_n 0, 1) := by decide +kernel
theorem dX11_doOne_355 : decode cX11_doOne 355 = .ok (.getfield 7, 3) := by decide +kernel
theorem dX11_doOne_358 : decode cX11_doOne 358 = .ok (.iload 5, 2) := by decide +kernel
theorem dX11_doOne_360 : decode cX11_doOne 360 = .ok (.iload_n 3, 1) := by decide +kernel
theorem dX11_doOne_361 : decode cX11_doOne 361 = .ok (.iadd, 1) := by decide +kernel
theorem dX11_doOne_362 : decode cX11_doOne 362 = .ok (.iaload, 1) := by decide +kernel
theorem dX11_doOne_363 : decode cX11_doOne 363 = .ok (.ifCond .ne 7, 3) := by decide +kernel
theorem dX11_doOne_366 : decode cX11_doOne 366 = .ok (.iconst (-1), 1) := by decide +kernel
theorem dX11_doOne_367 : decode cX11_doOne 367 = .ok (.goto 19, 3) := by decide +kernel
theorem dX11_doOne_370 : decode cX11_doOne 370 = .ok (.aload_n 0, 1) := by decide +kernel
theorem dX11_doOne_371 : decode cX11_doOne 371 = .ok (.getfield 136, 3) := by decide +kernel
theorem dX11_doOne_374 : decode cX11_doOne 374 = .ok (.iconst 1, 1) := by decide +kernel
theorem dX11_doOne_375 : decode cX11_doOne 375 = .ok (.iadd, 1) := by decide +kernel
theorem dX11_doOne_376 : decode cX11_doOne 376 = .ok (.aload_n 0, 1) := by decide +kernel
theorem dX11_doOne_377 : decode cX11_doOne 377 = .ok (.getfield 7, 3) := by decide +kernel
theorem dX11_doOne_380 : decode cX11_doOne 380 = .ok (.iload 5, 2) := by decide +kernel
theorem dX11_doOne_382 : decode cX11_doOne 382 = .ok (.iload_n 3, 1) := by decide +kernel
theorem dX11_doOne_383 : decode cX11_doOne 383 = .ok (.iadd, 1) := by decide +kernel
theorem dX11_doOne_384 : decode cX11_doOne 384 = .ok (.iaload, 1) := by decide +kernel
theorem dX11_doOne_385 : decode cX11_doOne 385 = .ok (.iadd, 1) := by decide +kernel
theorem dX11_doOne_386 : decode cX11_doOne 386 = .ok (.iastore, 1) := by decide +kernel
theorem dX11_doOne_387 : decode cX11_doOne 387 = .ok (.goto 79, 3) := by decide +kernel
theorem dX11_doOne_390 : decode cX11_doOne 390 = .ok (.aload_n 0, 1) := by decide +kernel
theorem dX11_doOne_391 : decode cX11_doOne 391 = .ok (.getfield 80, 3) := by decide +kernel
theorem dX11_doOne_394 : decode cX11_doOne 394 = .ok (.bipush 6, 2) := by decide +kernel
theorem dX11_doOne_396 : decode cX11_doOne 396 = .ok (.iload_n 1, 1) := by decide +kernel
theorem dX11_doOne_397 : decode cX11_doOne 397 = .ok (.imul, 1) := by decide +kernel
theorem dX11_doOne_398 : decode cX11_doOne 398 = .ok (.iconst 3, 1) := by decide +kernel
theorem dX11_doOne_399 : decode cX11_doOne 399 = .ok (.iadd, 1) := by decide +kernel
theorem dX11_doOne_400 : decode cX11_doOne 400 = .ok (.dup2, 1) := by decide +kernel
theorem dX11_doOne_401 : decode cX11_doOne 401 = .ok (.iaload, 1) := by decide +kernel
theorem dX11_doOne_402 : decode cX11_doOne 402 = .ok (.iconst 1, 1) := by decide +kernel
theorem dX11_doOne_403 : decode cX11_doOne 403 = .ok (.iadd, 1) := by decide +kernel
theorem dX11_doOne_404 : decode cX11_doOne 404 = .ok (.iastore, 1) := by decide +kernel
theorem dX11_doOne_405 : decode cX11_doOne 405 = .ok (.aload_n 0, 1) := by decide +kernel
theorem dX11_doOne_406 : decode cX11_doOne 406 = .ok (.getfield 7, 3) := by decide +kernel
theorem dX11_doOne_409 : decode cX11_doOne 409 = .ok (.iload 5, 2) := by decide +kernel
theorem dX11_doOne_411 : decode cX11_doOne 411 = .ok (.iload_n 3, 1) := by decide +kernel
theorem dX11_doOne_412 : decode cX11_doOne 412 = .ok (.iadd, 1) := by decide +kernel
theorem dX11_doOne_413 : decode cX11_doOne 413 = .ok (.iload 4, 2) := by decide +kernel
theorem dX11_doOne_415 : decode cX11_doOne 415 = .ok (.ifCond .ne 11, 3) := by decide +kernel
theorem dX11_doOne_418 : decode cX11_doOne 418 = .ok (.aload_n 0, 1) := by decide +kernel
theorem dX11_doOne_419 : decode cX11_doOne 419 = .ok (.iload_n 1, 1) := by decide +kernel
theorem dX11_doOne_420 : decode cX11_doOne 420 = .ok (.invokevirtual 172, 3) := by decide +kernel
theorem dX11_doOne_423 : decode cX11_doOne 423 = .ok (.goto 27, 3) := by decide +kernel
theorem dX11_doOne_426 : decode cX11_doOne 426 = .ok (.iload 4, 2) := by decide +kernel
theorem dX11_doOne_428 : decode cX11_doOne 428 = .ok (.iconst 1, 1) := by decide +kernel
theorem dX11_doOne_429 : decode cX11_doOne 429 = .ok (.if_icmp .ne 11, 3) := by decide +kernel
theorem dX11_doOne_432 : decode cX11_doOne 432 = .ok (.aload_n 0, 1) := by decide +kernel
theorem dX11_doOne_433 : decode cX11_doOne 433 = .ok (.iload_n 1, 1) := by decide +kernel
theorem dX11_doOne_434 : decode cX11_doOne 434 = .ok (.invokevirtual 175, 3) := by decide +kernel
theorem dX11_doOne_437 : decode cX11_doOne 437 = .ok (.goto 13, 3) := by decide +kernel
theorem dX11_doOne_440 : decode cX11_doOne 440 = .ok (.aload_n 0, 1) := by decide +kernel
theorem dX11_doOne_441 : decode cX11_doOne 441 = .ok (.getfield 7, 3) := by decide +kernel
theorem dX11_doOne_444 : decode cX11_doOne 444 = .ok (.iload 5, 2) := by decide +kernel
theorem dX11_doOne_446 : decode cX11_doOne 446 = .ok (.bipush 7, 2) := by decide +kernel
theorem dX11_doOne_448 : decode cX11_doOne 448 = .ok (.iadd, 1) := by decide +kernel
theorem dX11_doOne_449 : decode cX11_doOne 449 = .ok (.iaload, 1) := by decide +kernel
theorem dX11_doOne_450 : decode cX11_doOne 450 = .ok (.iastore, 1) := by decide +kernel
theorem dX11_doOne_451 : decode cX11_doOne 451 = .ok (.goto 15, 3) := by decide +kernel
theorem dX11_doOne_454 : decode cX11_doOne 454 = .ok (.aload_n 0, 1) := by decide +kernel
theorem dX11_doOne_455 : decode cX11_doOne 455 = .ok (.iload_n 1, 1) := by decide +kernel
theorem dX11_doOne_456 : decode cX11_doOne 456 = .ok (.iload_n 2, 1) := by decide +kernel
theorem dX11_doOne_457 : decode cX11_doOne 457 = .ok (.iload 4, 2) := by decide +kernel
theorem dX11_doOne_459 : decode cX11_doOne 459 = .ok (.iload 6, 2) := by decide +kernel
theorem dX11_doOne_461 : decode cX11_doOne 461 = .ok (.invokevirtual 178, 3) := by decide +kernel
theorem dX11_doOne_464 : decode cX11_doOne 464 = .ok (.istore 6, 2) := by decide +kernel
theorem dX11_doOne_466 : decode cX11_doOne 466 = .ok (.aload_n 0, 1) := by decide +kernel
theorem dX11_doOne_467 : decode cX11_doOne 467 = .ok (.getfield 7, 3) := by decide +kernel
theorem dX11_doOne_470 : decode cX11_doOne 470 = .ok (.iload 5, 2) := by decide +kernel
theorem dX11_doOne_472 : decode cX11_doOne 472 = .ok (.iconst 4, 1) := by decide +kernel
theorem dX11_doOne_473 : decode cX11_doOne 473 = .ok (.iadd, 1) := by decide +kernel
theorem dX11_doOne_474 : decode cX11_doOne 474 = .ok (.iload 6, 2) := by decide +kernel
theorem dX11_doOne_476 : decode cX11_doOne 476 = .ok (.iastore, 1) := by decide +kernel
theorem dX11_doOne_477 : decode cX11_doOne 477 = .ok (.return_, 1) := by decide +kernel
theorem dX11_doOther_0 : decode cX11_doOther 0 = .ok (.bipush 55, 2) := by decide +kernel
theorem dX11_doOther_2 : decode cX11_doOther 2 = .ok (.iload_n 1, 1) := by decide +kernel
theorem dX11_doOther_3 : decode cX11_doOther 3 = .ok (.imul, 1) := by decide +kernel
theorem dX11_doOther_4 : decode cX11_doOther 4 = .ok (.istore 5, 2) := by decide +kernel
theorem dX11_doOther_6 : decode cX11_doOther 6 = .ok (.iload_n 2, 1) := by decide +kernel
theorem dX11_doOther_7 : decode cX11_doOther 7 = .ok (.tableswitch 228 8 12 #[33, 94, 107, 121, 143], 33) := by decide +kernel
theorem dX11_doOther_40 : decode cX11_doOther 40 = .ok (.aload_n 0, 1) := by decide +kernel
theorem dX11_doOther_41 : decode cX11_doOther 41 = .ok (.getfield 80, 3) := by decide +kernel
theorem dX11_doOther_44 : decode cX11_doOther 44 = .ok (.bipush 6, 2) := by decide +kernel
theorem dX11_doOther_46 : decode cX11_doOther 46 = .ok (.iload_n 1, 1) := by decide +kernel
theorem dX11_doOther_47 : decode cX11_doOther 47 = .ok (.imul, 1) := by decide +kernel
theorem dX11_doOther_48 : decode cX11_doOther 48 = .ok (.iconst 4, 1) := by decide +kernel
theorem dX11_doOther_49 : decode cX11_doOther 49 = .ok (.iadd, 1) := by decide +kernel
theorem dX11_doOther_50 : decode cX11_doOther 50 = .ok (.dup2, 1) := by decide +kernel
theorem dX11_doOther_51 : decode cX11_doOther 51 = .ok (.iaload, 1) := by decide +kernel
theorem dX11_doOther_52 : decode cX11_doOther 52 = .ok (.iconst 1, 1) := by decide +kernel
theorem dX11_doOther_53 : decode cX11_doOther 53 = .ok (.iadd, 1) := by decide +kernel
theorem dX11_doOther_54 : decode cX11_doOther 54 = .ok (.iastore, 1) := by decide +kernel
theorem dX11_doOther_55 : decode cX11_doOther 55 = .ok (.aload_n 0, 1) := by decide +kernel
theorem dX11_doOther_56 : decode cX11_doOther 56 = .ok (.getfield 7, 3) := by decide +kernel
theorem dX11_doOther_59 : decode cX11_doOther 59 = .ok (.iload 5, 2) := by decide +kernel
theorem dX11_doOther_61 : decode cX11_doOther 61 = .ok (.bipush 49, 2) := by decide +kernel
theorem dX11_doOther_63 : decode cX11_doOther 63 = .ok (.iadd, 1) := by decide +kernel
theorem dX11_doOther_64 : decode cX11_doOther 64 = .ok (.aload_n 0, 1) := by decide +kernel
theorem dX11_doOther_65 : decode cX11_doOther 65 = .ok (.getfield 7, 3) := by decide +kernel
theorem dX11_doOther_68 : decode cX11_doOther 68 = .ok (.iload 5, 2) := by decide +kernel
theorem dX11_doOther_70 : decode cX11_doOther 70 = .ok (.bipush 51, 2) := by decide +kernel
theorem dX11_doOther_72 : decode cX11_doOther 72 = .ok (.iadd, 1) := by decide +kernel
theorem dX11_doOther_73 : decode cX11_doOther 73 = .ok (.iaload, 1) := by decide +kernel
theorem dX11_doOther_74 : decode cX11_doOther 74 = .ok (.iconst 1, 1) := by decide +kernel
theorem dX11_doOther_75 : decode cX11_doOther 75 = .ok (.if_icmp .eq 17, 3) := by decide +kernel
theorem dX11_doOther_78 : decode cX11_doOther 78 = .ok (.aload_n 0, 1) := by decide +kernel
theorem dX11_doOther_79 : decode cX11_doOther 79 = .ok (.getfield 7, 3) := by decide +kernel
theorem dX11_doOther_82 : decode cX11_doOther 82 = .ok (.iload 5, 2) := by decide +kernel
theorem dX11_doOther_84 : decode cX11_doOther 84 = .ok (.bipush 52, 2) := by decide +kernel
theorem dX11_doOther_86 : decode cX11_doOther 86 = .ok (.iadd, 1) := by decide +kernel
theorem dX11_doOther_87 : decode cX11_doOther 87 = .ok (.iaload, 1) := by decide +kernel
theorem dX11_doOther_88 : decode cX11_doOther 88 = .ok (.iconst 1, 1) := by decide +kernel
theorem dX11_doOther_89 : decode cX11_doOther 89 = .ok (.if_icmp .ne 7, 3) := by decide +kernel
theorem dX11_doOther_92 : decode cX11_doOther 92 = .ok (.iconst 0, 1) := by decide +kernel
theorem dX11_doOther_93 : decode cX11_doOther 93 = .ok (.goto 4, 3) := by decide +kernel
theorem dX11_doOther_96 : decode cX11_doOther 96 = .ok (.iconst 1, 1) := by decide +kernel
theorem dX11_doOther_97 : decode cX11_doOther 97 = .ok (.iastore, 1) := by decide +kernel
theorem dX11_doOther_98 : decode cX11_doOther 98 = .ok (.iload 4, 2) := by decide +kernel
theorem dX11_doOther_100 : decode cX11_doOther 100 = .ok (.ireturn, 1) := by decide +kernel
theorem dX11_doOther_101 : decode cX11_doOther 101 = .ok (.aload_n 0, 1) := by decide +kernel
theorem dX11_doOther_102 : decode cX11_doOther 102 = .ok (.getfield 7, 3) := by decide +kernel
theorem dX11_doOther_105 : decode cX11_doOther 105 = .ok (.iload 5, 2) := by decide +kernel
theorem dX11_doOther_107 : decode cX11_doOther 107 = .ok (.iconst 5, 1) := by decide +kernel
theorem dX11_doOther_108 : decode cX11_doOther 108 = .ok (.iadd, 1) := by decide +kernel
theorem dX11_doOther_109 : decode cX11_doOther 109 = .ok (.iload_n 3, 1) := by decide +kernel
theorem dX11_doOther_110 : decode cX11_doOther 110 = .ok (.iastore, 1) := by decide +kernel
theorem dX11_doOther_111 : decode cX11_doOther 111 = .ok (.iload 4, 2) := by decide +kernel
theorem dX11_doOther_113 : decode cX11_doOther 113 = .ok (.ireturn, 1) := by decide +kernel
theorem dX11_doOther_114 : decode cX11_doOther 114 = .ok (.aload_n 0, 1) := by decide +kernel
theorem dX11_doOther_115 : decode cX11_doOther 115 = .ok (.getfield 7, 3) := by decide +kernel
theorem dX11_doOther_118 : decode cX11_doOther 118 = .ok (.iload 5, 2) := by decide +kernel
theorem dX11_doOther_120 : decode cX11_doOther 120 = .ok (.bipush 8, 2) := by decide +kernel
theorem dX11_doOther_122 : decode cX11_doOther 122 = .ok (.iadd, 1) := by decide +kernel
theorem dX11_doOther_123 : decode cX11_doOther 123 = .ok (.iload_n 3, 1) := by decide +kernel
theorem dX11_doOther_124 : decode cX11_doOther 124 = .ok (.iastore, 1) := by decide +kernel
theorem dX11_doOther_125 : decode cX11_doOther 125 = .ok (.iload 4, 2) := by decide +kernel
theorem dX11_doOther_127 : decode cX11_doOther 127 = .ok (.ireturn, 1) := by decide +kernel
theorem dX11_doOther_128 : decode cX11_doOther 128 = .ok (.aload_n 0, 1) := by decide +kernel
theorem dX11_doOther_129 : decode cX11_doOther 129 = .ok (.getfield 7, 3) := by decide +kernel
theorem dX11_doOther_132 : decode cX11_doOther 132 = .ok (.iload 5, 2) := by decide +kernel
theorem dX11_doOther_134 : decode cX11_doOther 134 = .ok (.bipush 8, 2) := by decide +kernel
theorem dX11_doOther_136 : decode cX11_doOther 136 = .ok (.iadd, 1) := by decide +kernel
theorem dX11_doOther_137 : decode cX11_doOther 137 = .ok (.iconst 0, 1) := by decide +kernel
theorem dX11_doOther_138 : decode cX11_doOther 138 = .ok (.iastore, 1) := by decide +kernel
theorem dX11_doOther_139 : decode cX11_doOther 139 = .ok (.aload_n 0, 1) := by decide +kernel
theorem dX11_doOther_140 : decode cX11_doOther 140 = .ok (.getfield 7, 3) := by decide +kernel
theorem dX11_doOther_143 : decode cX11_doOther 143 = .ok (.iload 5, 2) := by decide +kernel
theorem dX11_doOther_145 : decode cX11_doOther 145 = .ok (.bipush 6, 2) := by decide +kernel
theorem dX11_doOther_147 : decode cX11_doOther 147 = .ok (.iadd, 1) := by decide +kernel
theorem dX11_doOther_148 : decode cX11_doOther 148 = .ok (.iaload, 1) := by decide +kernel
theorem dX11_doOther_149 : decode cX11_doOther 149 = .ok (.ireturn, 1) := by decide +kernel
theorem dX11_doOther_150 : decode cX11_doOther 150 = .ok (.iconst 0, 1) := by decide +kernel
theorem dX11_doOther_151 : decode cX11_doOther 151 = .ok (.istore 6, 2) := by decide +kernel
theorem dX11_doOther_153 : decode cX11_doOther 153 = .ok (.iload 6, 2) := by decide +kernel
theorem dX11_doOther_155 : decode cX11_doOther 155 = .ok (.iconst 4, 1) := by decide +kernel
theorem dX11_doOther_156 : decode cX11_doOther 156 = .ok (.if_icmp .ge 27, 3) := by decide +kernel
theorem dX11_doOther_159 : decode cX11_doOther 159 = .ok (.aload_n 0, 1) := by decide +kernel
theorem dX11_doOther_160 : decode cX11_doOther 160 = .ok (.getfield 7, 3) := by decide +kernel
theorem dX11_doOther_163 : decode cX11_doOther 163 = .ok (.iload 5, 2) := by decide +kernel
theorem dX11_doOther_165 : decode cX11_doOther 165 = .ok (.bipush 17, 2) := by decide +kernel
theorem dX11_doOther_167 : decode cX11_doOther 167 = .ok (.iadd, 1) := by decide +kernel
theorem dX11_doOther_168 : decode cX11_doOther 168 = .ok (.iconst 4, 1) := by decide +kernel
theorem dX11_doOther_169 : decode cX11_doOther 169 = .ok (.iload_n 3, 1) := by decide +kernel
theorem dX11_doOther_170 : decode cX11_doOther 170 = .ok (.imul, 1) := by decide +kernel
theorem dX11_doOther_171 : decode cX11_doOther 171 = .ok (.iadd, 1) := by decide +kernel
theorem dX11_doOther_172 : decode cX11_doOther 172 = .ok (.iload 6, 2) := by decide +kernel
theorem dX11_doOther_174 : decode cX11_doOther 174 = .ok (.iadd, 1) := by decide +kernel
theorem dX11_doOther_175 : decode cX11_doOther 175 = .ok (.iconst 0, 1) := by decide +kernel
theorem dX11_doOther_176 : decode cX11_doOther 176 = .ok (.iastore, 1) := by decide +kernel
theorem dX11_doOther_177 : decode cX11_doOther 177 = .ok (.iinc 6 1, 3) := by decide +kernel
theorem dX11_doOther_180 : decode cX11_doOther 180 = .ok (.goto (-27), 3) := by decide +kernel
theorem dX11_doOther_183 : decode cX11_doOther 183 = .ok (.aload_n 0, 1) := by decide +kernel
theorem dX11_doOther_184 : decode cX11_doOther 184 = .ok (.getfield 83, 3) := by decide +kernel
theorem dX11_doOther_187 : decode cX11_doOther 187 = .ok (.bipush 8, 2) := by decide +kernel
theorem dX11_doOther_189 : decode cX11_doOther 189 = .ok (.iload_n 1, 1) := by decide +kernel
theorem dX11_doOther_190 : decode cX11_doOther 190 = .ok (.imul, 1) := by decide +kernel
theorem dX11_doOther_191 : decode cX11_doOther 191 = .ok (.iload_n 3, 1) := by decide +kernel
theorem dX11_doOther_192 : decode cX11_doOther 192 = .ok (.iadd, 1) := by decide +kernel
theorem dX11_doOther_193 : decode cX11_doOther 193 = .ok (.iconst 0, 1) := by decide +kernel
theorem dX11_doOther_194 : decode cX11_doOther 194 = .ok (.iastore, 1) := by decide +kernel
theorem dX11_doOther_195 : decode cX11_doOther 195 = .ok (.aload_n 0, 1) := by decide +kernel
theorem dX11_doOther_196 : decode cX11_doOther 196 = .ok (.getfield 86, 3) := by decide +kernel
theorem dX11_doOther_199 : decode cX11_doOther 199 = .ok (.bipush 8, 2) := by decide +kernel
theorem dX11_doOther_201 : decode cX11_doOther 201 = .ok (.iload_n 1, 1) := by decide +kernel
theorem dX11_doOther_202 : decode cX11_doOther 202 = .ok (.imul, 1) := by decide +kernel
theorem dX11_doOther_203 : decode cX11_doOther 203 = .ok (.iload_n 3, 1) := by decide +kernel
theorem dX11_doOther_204 : decode cX11_doOther 204 = .ok (.iadd, 1) := by decide +kernel
theorem dX11_doOther_205 : decode cX11_doOther 205 = .ok (.iconst (-1), 1) := by decide +kernel
theorem dX11_doOther_206 : decode cX11_doOther 206 = .ok (.iastore, 1) := by decide +kernel
theorem dX11_doOther_207 : decode cX11_doOther 207 = .ok (.aload_n 0, 1) := by decide +kernel
theorem dX11_doOther_208 : decode cX11_doOther 208 = .ok (.getfield 95, 3) := by decide +kernel
theorem dX11_doOther_211 : decode cX11_doOther 211 = .ok (.iload_n 1, 1) := by decide +kernel
theorem dX11_doOther_212 : decode cX11_doOther 212 = .ok (.dup2, 1) := by decide +kernel
theorem dX11_doOther_213 : decode cX11_doOther 213 = .ok (.iaload, 1) := by decide +kernel
theorem dX11_doOther_214 : decode cX11_doOther 214 = .ok (.aload_n 0, 1) := by decide +kernel
theorem dX11_doOther_215 : decode cX11_doOther 215 = .ok (.getfield 92, 3) := by decide +kernel
theorem dX11_doOther_218 : decode cX11_doOther 218 = .ok (.iload_n 1, 1) := by decide +kernel
theorem dX11_doOther_219 : decode cX11_doOther 219 = .ok (.baload, 1) := by decide +kernel
theorem dX11_doOther_220 : decode cX11_doOther 220 = .ok (.ifCond .eq 9, 3) := by decide +kernel
theorem dX11_doOther_223 : decode cX11_doOther 223 = .ok (.iconst 1, 1) := by decide +kernel
theorem dX11_doOther_224 : decode cX11_doOther 224 = .ok (.iload_n 3, 1) := by decide +kernel
theorem dX11_doOther_225 : decode cX11_doOther 225 = .ok (.ishl, 1) := by decide +kernel
theorem dX11_doOther_226 : decode cX11_doOther 226 = .ok (.goto 4, 3) := by decide +kernel
theorem dX11_doOther_229 : decode cX11_doOther 229 = .ok (.iconst 0, 1) := by decide +kernel
theorem dX11_doOther_230 : decode cX11_doOther 230 = .ok (.ior, 1) := by decide +kernel
theorem dX11_doOther_231 : decode cX11_doOther 231 = .ok (.iastore, 1) := by decide +kernel
theorem dX11_doOther_232 : decode cX11_doOther 232 = .ok (.iload 4, 2) := by decide +kernel
theorem dX11_doOther_234 : decode cX11_doOther 234 = .ok (.ireturn, 1) := by decide +kernel
theorem dX11_doOther_235 : decode cX11_doOther 235 = .ok (.aload_n 0, 1) := by decide +kernel
theorem dX11_doOther_236 : decode cX11_doOther 236 = .ok (.getfield 80, 3) := by decide +kernel
theorem dX11_doOther_239 : decode cX11_doOther 239 = .ok (.bipush 6, 2) := by decide +kernel
theorem dX11_doOther_241 : decode cX11_doOther 241 = .ok (.iload_n 1, 1) := by decide +kernel
theorem dX11_doOther_242 : decode cX11_doOther 242 = .ok (.imul, 1) := by decide +kernel
theorem dX11_doOther_243 : decode cX11_doOther 243 = .ok (.iconst 4, 1) := by decide +kernel
theorem dX11_doOther_244 : decode cX11_doOther 244 = .ok (.iadd, 1) := by decide +kernel
theorem dX11_doOther_245 : decode cX11_doOther 245 = .ok (.dup2, 1) := by decide +kernel
theorem dX11_doOther_246 : decode cX11_doOther 246 = .ok (.iaload, 1) := by decide +kernel
theorem dX11_doOther_247 : decode cX11_doOther 247 = .ok (.iconst 1, 1) := by decide +kernel
theorem dX11_doOther_248 : decode cX11_doOther 248 = .ok (.iadd, 1) := by decide +kernel
theorem dX11_doOther_249 : decode cX11_doOther 249 = .ok (.iastore, 1) := by decide +kernel
theorem dX11_doOther_250 : decode cX11_doOther 250 = .ok (.aload_n 0, 1) := by decide +kernel
theorem dX11_doOther_251 : decode cX11_doOther 251 = .ok (.getfield 7, 3) := by decide +kernel
theorem dX11_doOther_254 : decode cX11_doOther 254 = .ok (.iload 5, 2) := by decide +kernel
theorem dX11_doOther_256 : decode cX11_doOther 256 = .ok (.bipush 49, 2) := by decide +kernel
theorem dX11_doOther_258 : decode cX11_doOther 258 = .ok (.iadd, 1) := by decide +kernel
theorem dX11_doOther_259 : decode cX11_doOther 259 = .ok (.iconst 2, 1) := by decide +kernel
theorem dX11_doOther_260 : decode cX11_doOther 260 = .ok (.iastore, 1) := by decide +kernel
theorem dX11_doOther_261 : decode cX11_doOther 261 = .ok (.iload 4, 2) := by decide +kernel
theorem dX11_doOther_263 : decode cX11_doOther 263 = .ok (.ireturn, 1) := by decide +kernel
theorem dX11_canRun_0 : decode cX11_canRun 0 = .ok (.aload_n 0, 1) := by decide +kernel
theorem dX11_canRun_1 : decode cX11_canRun 1 = .ok (.getfield 49, 3) := by decide +kernel
theorem dX11_canRun_4 : decode cX11_canRun 4 = .ok (.iload_n 1, 1) := by decide +kernel
theorem dX11_canRun_5 : decode cX11_canRun 5 = .ok (.iaload, 1) := by decide +kernel
theorem dX11_canRun_6 : decode cX11_canRun 6 = .ok (.iload_n 2, 1) := by decide +kernel
theorem dX11_canRun_7 : decode cX11_canRun 7 = .ok (.if_icmp .ne 31, 3) := by decide +kernel
theorem dX11_canRun_10 : decode cX11_canRun 10 = .ok (.aload_n 0, 1) := by decide +kernel
theorem dX11_canRun_11 : decode cX11_canRun 11 = .ok (.getfield 7, 3) := by decide +kernel
theorem dX11_canRun_14 : decode cX11_canRun 14 = .ok (.bipush 55, 2) := by decide +kernel
theorem dX11_canRun_16 : decode cX11_canRun 16 = .ok (.iload_n 1, 1) := by decide +kernel
theorem dX11_canRun_17 : decode cX11_canRun 17 = .ok (.imul, 1) := by decide +kernel
theorem dX11_canRun_18 : decode cX11_canRun 18 = .ok (.bipush 49, 2) := by decide +kernel
theorem dX11_canRun_20 : decode cX11_canRun 20 = .ok (.iadd, 1) := by decide +kernel
theorem dX11_canRun_21 : decode cX11_canRun 21 = .ok (.iaload, 1) := by decide +kernel
theorem dX11_canRun_22 : decode cX11_canRun 22 = .ok (.ifCond .ne 16, 3) := by decide +kernel
theorem dX11_canRun_25 : decode cX11_canRun 25 = .ok (.aload_n 0, 1) := by decide +kernel
theorem dX11_canRun_26 : decode cX11_canRun 26 = .ok (.getfield 59, 3) := by decide +kernel
theorem dX11_canRun_29 : decode cX11_canRun 29 = .ok (.iload_n 1, 1) := by decide +kernel
theorem dX11_canRun_30 : decode cX11_canRun 30 = .ok (.baload, 1) := by decide +kernel
theorem dX11_canRun_31 : decode cX11_canRun 31 = .ok (.ifCond .ne 7, 3) := by decide +kernel
theorem dX11_canRun_34 : decode cX11_canRun 34 = .ok (.iconst 1, 1) := by decide +kernel
theorem dX11_canRun_35 : decode cX11_canRun 35 = .ok (.goto 4, 3) := by decide +kernel
theorem dX11_canRun_38 : decode cX11_canRun 38 = .ok (.iconst 0, 1) := by decide +kernel
theorem dX11_canRun_39 : decode cX11_canRun 39 = .ok (.ireturn, 1) := by decide +kernel
theorem dX11_chosen_0 : decode cX11_chosen 0 = .ok (.aload_n 0, 1) := by decide +kernel
theorem dX11_chosen_1 : decode cX11_chosen 1 = .ok (.getfield 119, 3) := by decide +kernel
theorem dX11_chosen_4 : decode cX11_chosen 4 = .ok (.iload_n 1, 1) := by decide +kernel
theorem dX11_chosen_5 : decode cX11_chosen 5 = .ok (.iaload, 1) := by decide +kernel
theorem dX11_chosen_6 : decode cX11_chosen 6 = .ok (.istore_n 2, 1) := by decide +kernel
theorem dX11_chosen_7 : decode cX11_chosen 7 = .ok (.iload_n 2, 1) := by decide +kernel
theorem dX11_chosen_8 : decode cX11_chosen 8 = .ok (.iconst (-1), 1) := by decide +kernel
theorem dX11_chosen_9 : decode cX11_chosen 9 = .ok (.if_icmp .eq 39, 3) := by decide +kernel
theorem dX11_chosen_12 : decode cX11_chosen 12 = .ok (.aload_n 0, 1) := by decide +kernel
theorem dX11_chosen_13 : decode cX11_chosen 13 = .ok (.iload_n 2, 1) := by decide +kernel
theorem dX11_chosen_14 : decode cX11_chosen 14 = .ok (.iload_n 1, 1) := by decide +kernel
theorem dX11_chosen_15 : decode cX11_chosen 15 = .ok (.invokevirtual 182, 3) := by decide +kernel
theorem dX11_chosen_18 : decode cX11_chosen 18 = .ok (.ifCond .eq 30, 3) := by decide +kernel
theorem dX11_chosen_21 : decode cX11_chosen 21 = .ok (.aload_n 0, 1) := by decide +kernel
theorem dX11_chosen_22 : decode cX11_chosen 22 = .ok (.getfield 122, 3) := by decide +kernel
theorem dX11_chosen_25 : decode cX11_chosen 25 = .ok (.iload_n 1, 1) := by decide +kernel
theorem dX11_chosen_26 : decode cX11_chosen 26 = .ok (.iaload, 1) := by decide +kernel
theorem dX11_chosen_27 : decode cX11_chosen 27 = .ok (.aload_n 0, 1) := by decide +kernel
theorem dX11_chosen_28 : decode cX11_chosen 28 = .ok (.getfield 52, 3) := by decide +kernel
theorem dX11_chosen_31 : decode cX11_chosen 31 = .ok (.iload_n 2, 1) := by decide +kernel
theorem dX11_chosen_32 : decode cX11_chosen 32 = .ok (.iaload, 1) := by decide +kernel
theorem dX11_chosen_33 : decode cX11_chosen 33 = .ok (.if_icmp .ge 15, 3) := by decide +kernel
theorem dX11_chosen_36 : decode cX11_chosen 36 = .ok (.aload_n 0, 1) := by decide +kernel
theorem dX11_chosen_37 : decode cX11_chosen 37 = .ok (.getfield 122, 3) := by decide +kernel
theorem dX11_chosen_40 : decode cX11_chosen 40 = .ok (.iload_n 1, 1) := by decide +kernel
theorem dX11_chosen_41 : decode cX11_chosen 41 = .ok (.dup2, 1) := by decide +kernel
theorem dX11_chosen_42 : decode cX11_chosen 42 = .ok (.iaload, 1) := by decide +kernel
theorem dX11_chosen_43 : decode cX11_chosen 43 = .ok (.iconst 1, 1) := by decide +kernel
theorem dX11_chosen_44 : decode cX11_chosen 44 = .ok (.iadd, 1) := by decide +kernel
theorem dX11_chosen_45 : decode cX11_chosen 45 = .ok (.iastore, 1) := by decide +kernel
theorem dX11_chosen_46 : decode cX11_chosen 46 = .ok (.iload_n 2, 1) := by decide +kernel
theorem dX11_chosen_47 : decode cX11_chosen 47 = .ok (.ireturn, 1) := by decide +kernel
theorem dX11_chosen_48 : decode cX11_chosen 48 = .ok (.iconst 1, 1) := by decide +kernel
theorem dX11_chosen_49 : decode cX11_chosen 49 = .ok (.istore_n 3, 1) := by decide +kernel
theorem dX11_chosen_50 : decode cX11_chosen 50 = .ok (.iload_n 3, 1) := by decide +kernel
theorem dX11_chosen_51 : decode cX11_chosen 51 = .ok (.aload_n 0, 1) := by decide +kernel
theorem dX11_chosen_52 : decode cX11_chosen 52 = .ok (.getfield 129, 3) := by decide +kernel
theorem dX11_chosen_55 : decode cX11_chosen 55 = .ok (.if_icmp .gt 47, 3) := by decide +kernel
theorem dX11_chosen_58 : decode cX11_chosen 58 = .ok (.iload_n 2, 1) := by decide +kernel
theorem dX11_chosen_59 : decode cX11_chosen 59 = .ok (.iload_n 3, 1) := by decide +kernel
theorem dX11_chosen_60 : decode cX11_chosen 60 = .ok (.iadd, 1) := by decide +kernel
theorem dX11_chosen_61 : decode cX11_chosen 61 = .ok (.aload_n 0, 1) := by decide +kernel
theorem dX11_chosen_62 : decode cX11_chosen 62 = .ok (.getfield 129, 3) := by decide +kernel
theorem dX11_chosen_65 : decode cX11_chosen 65 = .ok (.irem, 1) := by decide +kernel
theorem dX11_chosen_66 : decode cX11_chosen 66 = .ok (.istore 4, 2) := by decide +kernel
theorem dX11_chosen_68 : decode cX11_chosen 68 = .ok (.aload_n 0, 1) := by decide +kernel
theorem dX11_chosen_69 : decode cX11_chosen 69 = .ok (.iload 4, 2) := by decide +kernel
theorem dX11_chosen_71 : decode cX11_chosen 71 = .ok (.iload_n 1, 1) := by decide +kernel
theorem dX11_chosen_72 : decode cX11_chosen 72 = .ok (.invokevirtual 182, 3) := by decide +kernel
theorem dX11_chosen_75 : decode cX11_chosen 75 = .ok (.ifCond .eq 21, 3) := by decide +kernel
theorem dX11_chosen_78 : decode cX11_chosen 78 = .ok (.aload_n 0, 1) := by decide +kernel
theorem dX11_chosen_79 : decode cX11_chosen 79 = .ok (.getfield 119, 3) := by decide +kernel
theorem dX11_chosen_82 : decode cX11_chosen 82 = .ok (.iload_n 1, 1) := by decide +kernel
theorem dX11_chosen_83 : decode cX11_chosen 83 = .ok (.iload 4, 2) := by decide +kernel
theorem dX11_chosen_85 : decode cX11_chosen 85 = .ok (.iastore, 1) := by decide +kernel
theorem dX11_chosen_86 : decode cX11_chosen 86 = .ok (.aload_n 0, 1) := by decide +kernel
theorem dX11_chosen_87 : decode cX11_chosen 87 = .ok (.getfield 122, 3) := by decide +kernel
theorem dX11_chosen_90 : decode cX11_chosen 90 = .ok (.iload_n 1, 1) := by decide +kernel
theorem dX11_chosen_91 : decode cX11_chosen 91 = .ok (.iconst 1, 1) := by decide +kernel
theorem dX11_chosen_92 : decode cX11_chosen 92 = .ok (.iastore, 1) := by decide +kernel
theorem dX11_chosen_93 : decode cX11_chosen 93 = .ok (.iload 4, 2) := by decide +kernel
theorem dX11_chosen_95 : decode cX11_chosen 95 = .ok (.ireturn, 1) := by decide +kernel
theorem dX11_chosen_96 : decode cX11_chosen 96 = .ok (.iinc 3 1, 3) := by decide +kernel
theorem dX11_chosen_99 : decode cX11_chosen 99 = .ok (.goto (-49), 3) := by decide +kernel
theorem dX11_chosen_102 : decode cX11_chosen 102 = .ok (.iconst (-1), 1) := by decide +kernel
theorem dX11_chosen_103 : decode cX11_chosen 103 = .ok (.ireturn, 1) := by decide +kernel
theorem dX11_tickOnce_0 : decode cX11_tickOnce 0 = .ok (.iconst 0, 1) := by decide +kernel
theorem dX11_tickOnce_1 : decode cX11_tickOnce 1 = .ok (.istore_n 1, 1) := by decide +kernel
theorem dX11_tickOnce_2 : decode cX11_tickOnce 2 = .ok (.iload_n 1, 1) := by decide +kernel
theorem dX11_tickOnce_3 : decode cX11_tickOnce 3 = .ok (.aload_n 0, 1) := by decide +kernel
theorem dX11_tickOnce_4 : decode cX11_tickOnce 4 = .ok (.getfield 129, 3) := by decide +kernel
theorem dX11_tickOnce_7 : decode cX11_tickOnce 7 = .ok (.if_icmp .ge 123, 3) := by decide +kernel
theorem dX11_tickOnce_10 : decode cX11_tickOnce 10 = .ok (.bipush 55, 2) := by decide +kernel
theorem dX11_tickOnce_12 : decode cX11_tickOnce 12 = .ok (.iload_n 1, 1) := by decide +kernel
theorem dX11_tickOnce_13 : decode cX11_tickOnce 13 = .ok (.imul, 1) := by decide +kernel
theorem dX11_tickOnce_14 : decode cX11_tickOnce 14 = .ok (.istore_n 2, 1) := by decide +kernel
theorem dX11_tickOnce_15 : decode cX11_tickOnce 15 = .ok (.aload_n 0, 1) := by decide +kernel
theorem dX11_tickOnce_16 : decode cX11_tickOnce 16 = .ok (.getfield 7, 3) := by decide +kernel
theorem dX11_tickOnce_19 : decode cX11_tickOnce 19 = .ok (.iload_n 2, 1) := by decide +kernel
theorem dX11_tickOnce_20 : decode cX11_tickOnce 20 = .ok (.bipush 50, 2) := by decide +kernel
theorem dX11_tickOnce_22 : decode cX11_tickOnce 22 = .ok (.iadd, 1) := by decide +kernel
theorem dX11_tickOnce_23 : decode cX11_tickOnce 23 = .ok (.iaload, 1) := by decide +kernel
theorem dX11_tickOnce_24 : decode cX11_tickOnce 24 = .ok (.aload_n 0, 1) := by decide +kernel
theorem dX11_tickOnce_25 : decode cX11_tickOnce 25 = .ok (.getfield 136, 3) := by decide +kernel
theorem dX11_tickOnce_28 : decode cX11_tickOnce 28 = .ok (.iconst 1, 1) := by decide +kernel
theorem dX11_tickOnce_29 : decode cX11_tickOnce 29 = .ok (.iadd, 1) := by decide +kernel
theorem dX11_tickOnce_30 : decode cX11_tickOnce 30 = .ok (.if_icmp .ne 23, 3) := by decide +kernel
theorem dX11_tickOnce_33 : decode cX11_tickOnce 33 = .ok (.aload_n 0, 1) := by decide +kernel
theorem dX11_tickOnce_34 : decode cX11_tickOnce 34 = .ok (.getfield 7, 3) := by decide +kernel
theorem dX11_tickOnce_37 : decode cX11_tickOnce 37 = .ok (.iload_n 2, 1) := by decide +kernel
theorem dX11_tickOnce_38 : decode cX11_tickOnce 38 = .ok (.bipush 50, 2) := by decide +kernel
theorem dX11_tickOnce_40 : decode cX11_tickOnce 40 = .ok (.iadd, 1) := by decide +kernel
theorem dX11_tickOnce_41 : decode cX11_tickOnce 41 = .ok (.iconst (-1), 1) := by decide +kernel
theorem dX11_tickOnce_42 : decode cX11_tickOnce 42 = .ok (.iastore, 1) := by decide +kernel
theorem dX11_tickOnce_43 : decode cX11_tickOnce 43 = .ok (.aload_n 0, 1) := by decide +kernel
theorem dX11_tickOnce_44 : decode cX11_tickOnce 44 = .ok (.getfield 7, 3) := by decide +kernel
theorem dX11_tickOnce_47 : decode cX11_tickOnce 47 = .ok (.iload_n 2, 1) := by decide +kernel
theorem dX11_tickOnce_48 : decode cX11_tickOnce 48 = .ok (.bipush 51, 2) := by decide +kernel
theorem dX11_tickOnce_50 : decode cX11_tickOnce 50 = .ok (.iadd, 1) := by decide +kernel
theorem dX11_tickOnce_51 : decode cX11_tickOnce 51 = .ok (.iconst 1, 1) := by decide +kernel
theorem dX11_tickOnce_52 : decode cX11_tickOnce 52 = .ok (.iastore, 1) := by decide +kernel
theorem dX11_tickOnce_53 : decode cX11_tickOnce 53 = .ok (.aload_n 0, 1) := by decide +kernel
theorem dX11_tickOnce_54 : decode cX11_tickOnce 54 = .ok (.getfield 7, 3) := by decide +kernel
theorem dX11_tickOnce_57 : decode cX11_tickOnce 57 = .ok (.iload_n 2, 1) := by decide +kernel
theorem dX11_tickOnce_58 : decode cX11_tickOnce 58 = .ok (.bipush 49, 2) := by decide +kernel
theorem dX11_tickOnce_60 : decode cX11_tickOnce 60 = .ok (.iadd, 1) := by decide +kernel
theorem dX11_tickOnce_61 : decode cX11_tickOnce 61 = .ok (.iaload, 1) := by decide +kernel
theorem dX11_tickOnce_62 : decode cX11_tickOnce 62 = .ok (.iconst 1, 1) := by decide +kernel
theorem dX11_tickOnce_63 : decode cX11_tickOnce 63 = .ok (.if_icmp .ne 33, 3) := by decide +kernel
theorem dX11_tickOnce_66 : decode cX11_tickOnce 66 = .ok (.aload_n 0, 1) := by decide +kernel
theorem dX11_tickOnce_67 : decode cX11_tickOnce 67 = .ok (.getfield 7, 3) := by decide +kernel
theorem dX11_tickOnce_70 : decode cX11_tickOnce 70 = .ok (.iload_n 2, 1) := by decide +kernel
theorem dX11_tickOnce_71 : decode cX11_tickOnce 71 = .ok (.bipush 51, 2) := by decide +kernel
theorem dX11_tickOnce_73 : decode cX11_tickOnce 73 = .ok (.iadd, 1) := by decide +kernel
theorem dX11_tickOnce_74 : decode cX11_tickOnce 74 = .ok (.iaload, 1) := by decide +kernel
theorem dX11_tickOnce_75 : decode cX11_tickOnce 75 = .ok (.iconst 1, 1) := by decide +kernel
theorem dX11_tickOnce_76 : decode cX11_tickOnce 76 = .ok (.if_icmp .eq 16, 3) := by decide +kernel
theorem dX11_tickOnce_79 : decode cX11_tickOnce 79 = .ok (.aload_n 0, 1) := by decide +kernel
theorem dX11_tickOnce_80 : decode cX11_tickOnce 80 = .ok (.getfield 7, 3) := by decide +kernel
theorem dX11_tickOnce_83 : decode cX11_tickOnce 83 = .ok (.iload_n 2, 1) := by decide +kernel
theorem dX11_tickOnce_84 : decode cX11_tickOnce 84 = .ok (.bipush 52, 2) := by decide +kernel
theorem dX11_tickOnce_86 : decode cX11_tickOnce 86 = .ok (.iadd, 1) := by decide +kernel
theorem dX11_tickOnce_87 : decode cX11_tickOnce 87 = .ok (.iaload, 1) := by decide +kernel
theorem dX11_tickOnce_88 : decode cX11_tickOnce 88 = .ok (.iconst 1, 1) := by decide +kernel
theorem dX11_tickOnce_89 : decode cX11_tickOnce 89 = .ok (.if_icmp .ne 7, 3) := by decide +kernel
theorem dX11_tickOnce_92 : decode cX11_tickOnce 92 = .ok (.iconst 1, 1) := by decide +kernel
theorem dX11_tickOnce_93 : decode cX11_tickOnce 93 = .ok (.goto 4, 3) := by decide +kernel
theorem dX11_tickOnce_96 : decode cX11_tickOnce 96 = .ok (.iconst 0, 1) := by decide +kernel
theorem dX11_tickOnce_97 : decode cX11_tickOnce 97 = .ok (.istore_n 3, 1) := by decide +kernel
theorem dX11_tickOnce_98 : decode cX11_tickOnce 98 = .ok (.aload_n 0, 1) := by decide +kernel
theorem dX11_tickOnce_99 : decode cX11_tickOnce 99 = .ok (.getfield 7, 3) := by decide +kernel
theorem dX11_tickOnce_102 : decode cX11_tickOnce 102 = .ok (.iload_n 2, 1) := by decide +kernel
theorem dX11_tickOnce_103 : decode cX11_tickOnce 103 = .ok (.bipush 49, 2) := by decide +kernel
theorem dX11_tickOnce_105 : decode cX11_tickOnce 105 = .ok (.iadd, 1) := by decide +kernel
theorem dX11_tickOnce_106 : decode cX11_tickOnce 106 = .ok (.iload_n 3, 1) := by decide +kernel
theorem dX11_tickOnce_107 : decode cX11_tickOnce 107 = .ok (.ifCond .eq 7, 3) := by decide +kernel
theorem dX11_tickOnce_110 : decode cX11_tickOnce 110 = .ok (.iconst 0, 1) := by decide +kernel
theorem dX11_tickOnce_111 : decode cX11_tickOnce 111 = .ok (.goto 12, 3) := by decide +kernel
theorem dX11_tickOnce_114 : decode cX11_tickOnce 114 = .ok (.aload_n 0, 1) := by decide +kernel
theorem dX11_tickOnce_115 : decode cX11_tickOnce 115 = .ok (.getfield 7, 3) := by decide +kernel
theorem dX11_tickOnce_118 : decode cX11_tickOnce 118 = .ok (.iload_n 2, 1) := by decide +kernel
theorem dX11_tickOnce_119 : decode cX11_tickOnce 119 = .ok (.bipush 49, 2) := by decide +kernel
theorem dX11_tickOnce_121 : decode cX11_tickOnce 121 = .ok (.iadd, 1) := by decide +kernel
theorem dX11_tickOnce_122 : decode cX11_tickOnce 122 = .ok (.iaload, 1) := by decide +kernel
theorem dX11_tickOnce_123 : decode cX11_tickOnce 123 = .ok (.iastore, 1) := by decide +kernel
theorem dX11_tickOnce_124 : decode cX11_tickOnce 124 = .ok (.iinc 1 1, 3) := by decide +kernel
theorem dX11_tickOnce_127 : decode cX11_tickOnce 127 = .ok (.goto (-125), 3) := by decide +kernel
theorem dX11_tickOnce_130 : decode cX11_tickOnce 130 = .ok (.iconst 0, 1) := by decide +kernel
theorem dX11_tickOnce_131 : decode cX11_tickOnce 131 = .ok (.istore_n 1, 1) := by decide +kernel
theorem dX11_tickOnce_132 : decode cX11_tickOnce 132 = .ok (.iload_n 1, 1) := by decide +kernel
theorem dX11_tickOnce_133 : decode cX11_tickOnce 133 = .ok (.iconst 2, 1) := by decide +kernel
theorem dX11_tickOnce_134 : decode cX11_tickOnce 134 = .ok (.if_icmp .ge 87, 3) := by decide +kernel
theorem dX11_tickOnce_137 : decode cX11_tickOnce 137 = .ok (.aload_n 0, 1) := by decide +kernel
theorem dX11_tickOnce_138 : decode cX11_tickOnce 138 = .ok (.getfield 116, 3) := by decide +kernel
theorem dX11_tickOnce_141 : decode cX11_tickOnce 141 = .ok (.iload_n 1, 1) := by decide +kernel
theorem dX11_tickOnce_142 : decode cX11_tickOnce 142 = .ok (.baload, 1) := by decide +kernel
theorem dX11_tickOnce_143 : decode cX11_tickOnce 143 = .ok (.ifCond .eq 7, 3) := by decide +kernel
theorem dX11_tickOnce_146 : decode cX11_tickOnce 146 = .ok (.iconst (-1), 1) := by decide +kernel
theorem dX11_tickOnce_147 : decode cX11_tickOnce 147 = .ok (.goto 8, 3) := by decide +kernel
theorem dX11_tickOnce_150 : decode cX11_tickOnce 150 = .ok (.aload_n 0, 1) := by decide +kernel
theorem dX11_tickOnce_151 : decode cX11_tickOnce 151 = .ok (.iload_n 1, 1) := by decide +kernel
theorem dX11_tickOnce_152 : decode cX11_tickOnce 152 = .ok (.invokevirtual 186, 3) := by decide +kernel
theorem dX11_tickOnce_155 : decode cX11_tickOnce 155 = .ok (.istore_n 2, 1) := by decide +kernel
theorem dX11_tickOnce_156 : decode cX11_tickOnce 156 = .ok (.iconst 0, 1) := by decide +kernel
theorem dX11_tickOnce_157 : decode cX11_tickOnce 157 = .ok (.istore_n 3, 1) := by decide +kernel
theorem dX11_tickOnce_158 : decode cX11_tickOnce 158 = .ok (.iload_n 3, 1) := by decide +kernel
theorem dX11_tickOnce_159 : decode cX11_tickOnce 159 = .ok (.aload_n 0, 1) := by decide +kernel
theorem dX11_tickOnce_160 : decode cX11_tickOnce 160 = .ok (.getfield 129, 3) := by decide +kernel
theorem dX11_tickOnce_163 : decode cX11_tickOnce 163 = .ok (.if_icmp .ge 42, 3) := by decide +kernel
theorem dX11_tickOnce_166 : decode cX11_tickOnce 166 = .ok (.iload_n 2, 1) := by decide +kernel
theorem dX11_tickOnce_167 : decode cX11_tickOnce 167 = .ok (.iconst (-1), 1) := by decide +kernel
theorem dX11_tickOnce_168 : decode cX11_tickOnce 168 = .ok (.if_icmp .eq 37, 3) := by decide +kernel
theorem dX11_tickOnce_171 : decode cX11_tickOnce 171 = .ok (.aload_n 0, 1) := by decide +kernel
theorem dX11_tickOnce_172 : decode cX11_tickOnce 172 = .ok (.getfield 74, 3) := by decide +kernel
theorem dX11_tickOnce_175 : decode cX11_tickOnce 175 = .ok (.iload_n 3, 1) := by decide +kernel
theorem dX11_tickOnce_176 : decode cX11_tickOnce 176 = .ok (.dup2, 1) := by decide +kernel
theorem dX11_tickOnce_177 : decode cX11_tickOnce 177 = .ok (.iaload, 1) := by decide +kernel
theorem dX11_tickOnce_178 : decode cX11_tickOnce 178 = .ok (.iload_n 3, 1) := by decide +kernel
theorem dX11_tickOnce_179 : decode cX11_tickOnce 179 = .ok (.iload_n 2, 1) := by decide +kernel
theorem dX11_tickOnce_180 : decode cX11_tickOnce 180 = .ok (.if_icmp .eq 16, 3) := by decide +kernel
theorem dX11_tickOnce_183 : decode cX11_tickOnce 183 = .ok (.aload_n 0, 1) := by decide +kernel
theorem dX11_tickOnce_184 : decode cX11_tickOnce 184 = .ok (.iload_n 3, 1) := by decide +kernel
theorem dX11_tickOnce_185 : decode cX11_tickOnce 185 = .ok (.iload_n 1, 1) := by decide +kernel
theorem dX11_tickOnce_186 : decode cX11_tickOnce 186 = .ok (.invokevirtual 182, 3) := by decide +kernel
theorem dX11_tickOnce_189 : decode cX11_tickOnce 189 = .ok (.ifCond .eq 7, 3) := by decide +kernel
theorem dX11_tickOnce_192 : decode cX11_tickOnce 192 = .ok (.iconst 1, 1) := by decide +kernel
theorem dX11_tickOnce_193 : decode cX11_tickOnce 193 = .ok (.goto 4, 3) := by decide +kernel
theorem dX11_tickOnce_196 : decode cX11_tickOnce 196 = .ok (.iconst 0, 1) := by decide +kernel
theorem dX11_tickOnce_197 : decode cX11_tickOnce 197 = .ok (.iadd, 1) := by decide +kernel
theorem dX11_tickOnce_198 : decode cX11_tickOnce 198 = .ok (.iastore, 1) := by decide +kernel
theorem dX11_tickOnce_199 : decode cX11_tickOnce 199 = .ok (.iinc 3 1, 3) := by decide +kernel
theorem dX11_tickOnce_202 : decode cX11_tickOnce 202 = .ok (.goto (-44), 3) := by decide +kernel
theorem dX11_tickOnce_205 : decode cX11_tickOnce 205 = .ok (.iload_n 2, 1) := by decide +kernel
theorem dX11_tickOnce_206 : decode cX11_tickOnce 206 = .ok (.iconst (-1), 1) := by decide +kernel
theorem dX11_tickOnce_207 : decode cX11_tickOnce 207 = .ok (.if_icmp .eq 8, 3) := by decide +kernel
theorem dX11_tickOnce_210 : decode cX11_tickOnce 210 = .ok (.aload_n 0, 1) := by decide +kernel
theorem dX11_tickOnce_211 : decode cX11_tickOnce 211 = .ok (.iload_n 2, 1) := by decide +kernel
theorem dX11_tickOnce_212 : decode cX11_tickOnce 212 = .ok (.invokevirtual 189, 3) := by decide +kernel
theorem dX11_tickOnce_215 : decode cX11_tickOnce 215 = .ok (.iinc 1 1, 3) := by decide +kernel
theorem dX11_tickOnce_218 : decode cX11_tickOnce 218 = .ok (.goto (-86), 3) := by decide +kernel
theorem dX11_tickOnce_221 : decode cX11_tickOnce 221 = .ok (.aload_n 0, 1) := by decide +kernel
theorem dX11_tickOnce_222 : decode cX11_tickOnce 222 = .ok (.dup, 1) := by decide +kernel
theorem dX11_tickOnce_223 : decode cX11_tickOnce 223 = .ok (.getfield 136, 3) := by decide +kernel
theorem dX11_tickOnce_226 : decode cX11_tickOnce 226 = .ok (.iconst 1, 1) := by decide +kernel
theorem dX11_tickOnce_227 : decode cX11_tickOnce 227 = .ok (.iadd, 1) := by decide +kernel
theorem dX11_tickOnce_228 : decode cX11_tickOnce 228 = .ok (.putfield 136, 3) := by decide +kernel
theorem dX11_tickOnce_231 : decode cX11_tickOnce 231 = .ok (.return_, 1) := by decide +kernel
theorem dX11_guest_0 : decode cX11_guest 0 = .ok (.aload_n 0, 1) := by decide +kernel
theorem dX11_guest_1 : decode cX11_guest 1 = .ok (.iload_n 1, 1) := by decide +kernel
theorem dX11_guest_2 : decode cX11_guest 2 = .ok (.iconst 0, 1) := by decide +kernel
theorem dX11_guest_3 : decode cX11_guest 3 = .ok (.iconst 1, 1) := by decide +kernel
theorem dX11_guest_4 : decode cX11_guest 4 = .ok (.invokestatic 132, 3) := by decide +kernel
theorem dX11_guest_7 : decode cX11_guest 7 = .ok (.ifCond .ne 7, 3) := by decide +kernel
theorem dX11_guest_10 : decode cX11_guest 10 = .ok (.iconst 1, 1) := by decide +kernel
theorem dX11_guest_11 : decode cX11_guest 11 = .ok (.goto 38, 3) := by decide +kernel
theorem dX11_guest_14 : decode cX11_guest 14 = .ok (.iload_n 2, 1) := by decide +kernel
theorem dX11_guest_15 : decode cX11_guest 15 = .ok (.iconst 1, 1) := by decide +kernel
theorem dX11_guest_16 : decode cX11_guest 16 = .ok (.iconst 4, 1) := by decide +kernel
theorem dX11_guest_17 : decode cX11_guest 17 = .ok (.invokestatic 132, 3) := by decide +kernel
theorem dX11_guest_20 : decode cX11_guest 20 = .ok (.ifCond .ne 7, 3) := by decide +kernel
theorem dX11_guest_23 : decode cX11_guest 23 = .ok (.iconst 2, 1) := by decide +kernel
theorem dX11_guest_24 : decode cX11_guest 24 = .ok (.goto 25, 3) := by decide +kernel
theorem dX11_guest_27 : decode cX11_guest 27 = .ok (.aload_n 0, 1) := by decide +kernel
theorem dX11_guest_28 : decode cX11_guest 28 = .ok (.getfield 129, 3) := by decide +kernel
theorem dX11_guest_31 : decode cX11_guest 31 = .ok (.iconst 5, 1) := by decide +kernel
theorem dX11_guest_32 : decode cX11_guest 32 = .ok (.if_icmp .eq 12, 3) := by decide +kernel
theorem dX11_guest_35 : decode cX11_guest 35 = .ok (.aload_n 0, 1) := by decide +kernel
theorem dX11_guest_36 : decode cX11_guest 36 = .ok (.getfield 116, 3) := by decide +kernel
theorem dX11_guest_39 : decode cX11_guest 39 = .ok (.iload_n 1, 1) := by decide +kernel
theorem dX11_guest_40 : decode cX11_guest 40 = .ok (.baload, 1) := by decide +kernel
theorem dX11_guest_41 : decode cX11_guest 41 = .ok (.ifCond .eq 7, 3) := by decide +kernel
theorem dX11_guest_44 : decode cX11_guest 44 = .ok (.iconst 3, 1) := by decide +kernel
theorem dX11_guest_45 : decode cX11_guest 45 = .ok (.goto 4, 3) := by decide +kernel
theorem dX11_guest_48 : decode cX11_guest 48 = .ok (.iconst 0, 1) := by decide +kernel
theorem dX11_guest_49 : decode cX11_guest 49 = .ok (.invokevirtual 192, 3) := by decide +kernel
theorem dX11_guest_52 : decode cX11_guest 52 = .ok (.ifCond .eq 5, 3) := by decide +kernel
theorem dX11_guest_55 : decode cX11_guest 55 = .ok (.iconst 0, 1) := by decide +kernel
theorem dX11_guest_56 : decode cX11_guest 56 = .ok (.ireturn, 1) := by decide +kernel
theorem dX11_guest_57 : decode cX11_guest 57 = .ok (.aload_n 0, 1) := by decide +kernel
theorem dX11_guest_58 : decode cX11_guest 58 = .ok (.getfield 129, 3) := by decide +kernel
theorem dX11_guest_61 : decode cX11_guest 61 = .ok (.istore 4, 2) := by decide +kernel
theorem dX11_guest_63 : decode cX11_guest 63 = .ok (.aload_n 0, 1) := by decide +kernel
theorem dX11_guest_64 : decode cX11_guest 64 = .ok (.dup, 1) := by decide +kernel
theorem dX11_guest_65 : decode cX11_guest 65 = .ok (.getfield 129, 3) := by decide +kernel
theorem dX11_guest_68 : decode cX11_guest 68 = .ok (.iconst 1, 1) := by decide +kernel
theorem dX11_guest_69 : decode cX11_guest 69 = .ok (.iadd, 1) := by decide +kernel
theorem dX11_guest_70 : decode cX11_guest 70 = .ok (.putfield 129, 3) := by decide +kernel
theorem dX11_guest_73 : decode cX11_guest 73 = .ok (.aload_n 0, 1) := by decide +kernel
theorem dX11_guest_74 : decode cX11_guest 74 = .ok (.getfield 7, 3) := by decide +kernel
theorem dX11_guest_77 : decode cX11_guest 77 = .ok (.bipush 55, 2) := by decide +kernel
theorem dX11_guest_79 : decode cX11_guest 79 = .ok (.iload 4, 2) := by decide +kernel
theorem dX11_guest_81 : decode cX11_guest 81 = .ok (.imul, 1) := by decide +kernel
theorem dX11_guest_82 : decode cX11_guest 82 = .ok (.iconst 5, 1) := by decide +kernel
theorem dX11_guest_83 : decode cX11_guest 83 = .ok (.iadd, 1) := by decide +kernel
theorem dX11_guest_84 : decode cX11_guest 84 = .ok (.iconst (-1), 1) := by decide +kernel
theorem dX11_guest_85 : decode cX11_guest 85 = .ok (.iastore, 1) := by decide +kernel
theorem dX11_guest_86 : decode cX11_guest 86 = .ok (.aload_n 0, 1) := by decide +kernel
theorem dX11_guest_87 : decode cX11_guest 87 = .ok (.getfield 7, 3) := by decide +kernel
theorem dX11_guest_90 : decode cX11_guest 90 = .ok (.bipush 55, 2) := by decide +kernel
theorem dX11_guest_92 : decode cX11_guest 92 = .ok (.iload 4, 2) := by decide +kernel
theorem dX11_guest_94 : decode cX11_guest 94 = .ok (.imul, 1) := by decide +kernel
theorem dX11_guest_95 : decode cX11_guest 95 = .ok (.bipush 50, 2) := by decide +kernel
theorem dX11_guest_97 : decode cX11_guest 97 = .ok (.iadd, 1) := by decide +kernel
theorem dX11_guest_98 : decode cX11_guest 98 = .ok (.iconst (-1), 1) := by decide +kernel
theorem dX11_guest_99 : decode cX11_guest 99 = .ok (.iastore, 1) := by decide +kernel
theorem dX11_guest_100 : decode cX11_guest 100 = .ok (.iconst 0, 1) := by decide +kernel
theorem dX11_guest_101 : decode cX11_guest 101 = .ok (.istore 5, 2) := by decide +kernel
theorem dX11_guest_103 : decode cX11_guest 103 = .ok (.iload 5, 2) := by decide +kernel
theorem dX11_guest_105 : decode cX11_guest 105 = .ok (.bipush 8, 2) := by decide +kernel
theorem dX11_guest_107 : decode cX11_guest 107 = .ok (.if_icmp .ge 55, 3) := by decide +kernel
theorem dX11_guest_110 : decode cX11_guest 110 = .ok (.aload_n 0, 1) := by decide +kernel
theorem dX11_guest_111 : decode cX11_guest 111 = .ok (.getfield 7, 3) := by decide +kernel
theorem dX11_guest_114 : decode cX11_guest 114 = .ok (.bipush 55, 2) := by decide +kernel
theorem dX11_guest_116 : decode cX11_guest 116 = .ok (.iload 4, 2) := by decide +kernel
theorem dX11_guest_118 : decode cX11_guest 118 = .ok (.imul, 1) := by decide +kernel
theorem dX11_guest_119 : decode cX11_guest 119 = .ok (.bipush 9, 2) := by decide +kernel
theorem dX11_guest_121 : decode cX11_guest 121 = .ok (.iadd, 1) := by decide +kernel
theorem dX11_guest_122 : decode cX11_guest 122 = .ok (.iload 5, 2) := by decide +kernel
theorem dX11_guest_124 : decode cX11_guest 124 = .ok (.iadd, 1) := by decide +kernel
theorem dX11_guest_125 : decode cX11_guest 125 = .ok (.iload 5, 2) := by decide +kernel
theorem dX11_guest_127 : decode cX11_guest 127 = .ok (.iastore, 1) := by decide +kernel
theorem dX11_guest_128 : decode cX11_guest 128 = .ok (.aload_n 0, 1) := by decide +kernel
theorem dX11_guest_129 : decode cX11_guest 129 = .ok (.getfield 83, 3) := by decide +kernel
theorem dX11_guest_132 : decode cX11_guest 132 = .ok (.bipush 8, 2) := by decide +kernel
theorem dX11_guest_134 : decode cX11_guest 134 = .ok (.iload 4, 2) := by decide +kernel
theorem dX11_guest_136 : decode cX11_guest 136 = .ok (.imul, 1) := by decide +kernel
theorem dX11_guest_137 : decode cX11_guest 137 = .ok (.iload 5, 2) := by decide +kernel
theorem dX11_guest_139 : decode cX11_guest 139 = .ok (.iadd, 1) := by decide +kernel
theorem dX11_guest_140 : decode cX11_guest 140 = .ok (.iconst 0, 1) := by decide +kernel
theorem dX11_guest_141 : decode cX11_guest 141 = .ok (.iastore, 1) := by decide +kernel
theorem dX11_guest_142 : decode cX11_guest 142 = .ok (.aload_n 0, 1) := by decide +kernel
theorem dX11_guest_143 : decode cX11_guest 143 = .ok (.getfield 86, 3) := by decide +kernel
theorem dX11_guest_146 : decode cX11_guest 146 = .ok (.bipush 8, 2) := by decide +kernel
theorem dX11_guest_148 : decode cX11_guest 148 = .ok (.iload 4, 2) := by decide +kernel
theorem dX11_guest_150 : decode cX11_guest 150 = .ok (.imul, 1) := by decide +kernel
theorem dX11_guest_151 : decode cX11_guest 151 = .ok (.iload 5, 2) := by decide +kernel
theorem dX11_guest_153 : decode cX11_guest 153 = .ok (.iadd, 1) := by decide +kernel
theorem dX11_guest_154 : decode cX11_guest 154 = .ok (.iconst (-1), 1) := by decide +kernel
theorem dX11_guest_155 : decode cX11_guest 155 = .ok (.iastore, 1) := by decide +kernel
theorem dX11_guest_156 : decode cX11_guest 156 = .ok (.iinc 5 1, 3) := by decide +kernel
theorem dX11_guest_159 : decode cX11_guest 159 = .ok (.goto (-56), 3) := by decide +kernel
theorem dX11_guest_162 : decode cX11_guest 162 = .ok (.aload_n 0, 1) := by decide +kernel
theorem dX11_guest_163 : decode cX11_guest 163 = .ok (.getfield 49, 3) := by decide +kernel
theorem dX11_guest_166 : decode cX11_guest 166 = .ok (.iload 4, 2) := by decide +kernel
theorem dX11_guest_168 : decode cX11_guest 168 = .ok (.iload_n 1, 1) := by decide +kernel
theorem dX11_guest_169 : decode cX11_guest 169 = .ok (.iastore, 1) := by decide +kernel
theorem dX11_guest_170 : decode cX11_guest 170 = .ok (.aload_n 0, 1) := by decide +kernel
theorem dX11_guest_171 : decode cX11_guest 171 = .ok (.getfield 52, 3) := by decide +kernel
theorem dX11_guest_174 : decode cX11_guest 174 = .ok (.iload 4, 2) := by decide +kernel
theorem dX11_guest_176 : decode cX11_guest 176 = .ok (.iload_n 2, 1) := by decide +kernel
theorem dX11_guest_177 : decode cX11_guest 177 = .ok (.iastore, 1) := by decide +kernel
theorem dX11_guest_178 : decode cX11_guest 178 = .ok (.aload_n 0, 1) := by decide +kernel
theorem dX11_guest_179 : decode cX11_guest 179 = .ok (.getfield 55, 3) := by decide +kernel
theorem dX11_guest_182 : decode cX11_guest 182 = .ok (.iload 4, 2) := by decide +kernel
theorem dX11_guest_184 : decode cX11_guest 184 = .ok (.iload_n 3, 1) := by decide +kernel
theorem dX11_guest_185 : decode cX11_guest 185 = .ok (.bastore, 1) := by decide +kernel
theorem dX11_guest_186 : decode cX11_guest 186 = .ok (.aload_n 0, 1) := by decide +kernel
theorem dX11_guest_187 : decode cX11_guest 187 = .ok (.getfield 65, 3) := by decide +kernel
theorem dX11_guest_190 : decode cX11_guest 190 = .ok (.iload 4, 2) := by decide +kernel
theorem dX11_guest_192 : decode cX11_guest 192 = .ok (.iconst 1, 1) := by decide +kernel
theorem dX11_guest_193 : decode cX11_guest 193 = .ok (.iastore, 1) := by decide +kernel
theorem dX11_guest_194 : decode cX11_guest 194 = .ok (.aload_n 0, 1) := by decide +kernel
theorem dX11_guest_195 : decode cX11_guest 195 = .ok (.getfield 68, 3) := by decide +kernel
theorem dX11_guest_198 : decode cX11_guest 198 = .ok (.iload 4, 2) := by decide +kernel
theorem dX11_guest_200 : decode cX11_guest 200 = .ok (.iconst 0, 1) := by decide +kernel
theorem dX11_guest_201 : decode cX11_guest 201 = .ok (.iastore, 1) := by decide +kernel
theorem dX11_guest_202 : decode cX11_guest 202 = .ok (.aload_n 0, 1) := by decide +kernel
theorem dX11_guest_203 : decode cX11_guest 203 = .ok (.getfield 71, 3) := by decide +kernel
theorem dX11_guest_206 : decode cX11_guest 206 = .ok (.iload 4, 2) := by decide +kernel
theorem dX11_guest_208 : decode cX11_guest 208 = .ok (.aload_n 0, 1) := by decide +kernel
theorem dX11_guest_209 : decode cX11_guest 209 = .ok (.getfield 136, 3) := by decide +kernel
theorem dX11_guest_212 : decode cX11_guest 212 = .ok (.iastore, 1) := by decide +kernel
theorem dX11_guest_213 : decode cX11_guest 213 = .ok (.aload_n 0, 1) := by decide +kernel
theorem dX11_guest_214 : decode cX11_guest 214 = .ok (.getfield 40, 3) := by decide +kernel
theorem dX11_guest_217 : decode cX11_guest 217 = .ok (.iload 4, 2) := by decide +kernel
theorem dX11_guest_219 : decode cX11_guest 219 = .ok (.iconst (-1), 1) := by decide +kernel
theorem dX11_guest_220 : decode cX11_guest 220 = .ok (.iastore, 1) := by decide +kernel
theorem dX11_guest_221 : decode cX11_guest 221 = .ok (.iload 4, 2) := by decide +kernel
theorem dX11_guest_223 : decode cX11_guest 223 = .ok (.ireturn, 1) := by decide +kernel
theorem dX11_isA_0 : decode cX11_isA 0 = .ok (.iload_n 0, 1) := by decide +kernel
theorem dX11_isA_1 : decode cX11_isA 1 = .ok (.iconst 4, 1) := by decide +kernel
theorem dX11_isA_2 : decode cX11_isA 2 = .ok (.if_icmp .le 15, 3) := by decide +kernel
theorem dX11_isA_5 : decode cX11_isA 5 = .ok (.iload_n 0, 1) := by decide +kernel
theorem dX11_isA_6 : decode cX11_isA 6 = .ok (.bipush 6, 2) := by decide +kernel
theorem dX11_isA_8 : decode cX11_isA 8 = .ok (.if_icmp .eq 9, 3) := by decide +kernel
theorem dX11_isA_11 : decode cX11_isA 11 = .ok (.iload_n 0, 1) := by decide +kernel
theorem dX11_isA_12 : decode cX11_isA 12 = .ok (.bipush 7, 2) := by decide +kernel
theorem dX11_isA_14 : decode cX11_isA 14 = .ok (.if_icmp .ne 12, 3) := by decide +kernel
theorem dX11_isA_17 : decode cX11_isA 17 = .ok (.iload_n 1, 1) := by decide +kernel
theorem dX11_isA_18 : decode cX11_isA 18 = .ok (.iconst 0, 1) := by decide +kernel
theorem dX11_isA_19 : decode cX11_isA 19 = .ok (.iconst 3, 1) := by decide +kernel
theorem dX11_isA_20 : decode cX11_isA 20 = .ok (.invokestatic 132, 3) := by decide +kernel
theorem dX11_isA_23 : decode cX11_isA 23 = .ok (.goto 23, 3) := by decide +kernel
theorem dX11_isA_26 : decode cX11_isA 26 = .ok (.iload_n 0, 1) := by decide +kernel
theorem dX11_isA_27 : decode cX11_isA 27 = .ok (.iconst 5, 1) := by decide +kernel
theorem dX11_isA_28 : decode cX11_isA 28 = .ok (.if_icmp .ne 13, 3) := by decide +kernel
theorem dX11_isA_31 : decode cX11_isA 31 = .ok (.iload_n 1, 1) := by decide +kernel
theorem dX11_isA_32 : decode cX11_isA 32 = .ok (.iconst 0, 1) := by decide +kernel
theorem dX11_isA_33 : decode cX11_isA 33 = .ok (.bipush 7, 2) := by decide +kernel
theorem dX11_isA_35 : decode cX11_isA 35 = .ok (.invokestatic 132, 3) := by decide +kernel
theorem dX11_isA_38 : decode cX11_isA 38 = .ok (.ifCond .eq 7, 3) := by decide +kernel
theorem dX11_isA_41 : decode cX11_isA 41 = .ok (.iconst 1, 1) := by decide +kernel
theorem dX11_isA_42 : decode cX11_isA 42 = .ok (.goto 4, 3) := by decide +kernel
theorem dX11_isA_45 : decode cX11_isA 45 = .ok (.iconst 0, 1) := by decide +kernel
theorem dX11_isA_46 : decode cX11_isA 46 = .ok (.ireturn, 1) := by decide +kernel
theorem dX11_isB_0 : decode cX11_isB 0 = .ok (.iload_n 0, 1) := by decide +kernel
theorem dX11_isB_1 : decode cX11_isB 1 = .ok (.tableswitch 121 0 12 #[67, 76, 76, 76, 83, 91, 99, 106, 121, 83, 99, 121, 113], 67) := by decide +kernel
theorem dX11_isB_68 : decode cX11_isB 68 = .ok (.iload_n 1, 1) := by decide +kernel
theorem dX11_isB_69 : decode cX11_isB 69 = .ok (.iconst 0, 1) := by decide +kernel
theorem dX11_isB_70 : decode cX11_isB 70 = .ok (.sipush 9999, 3) := by decide +kernel
theorem dX11_isB_73 : decode cX11_isB 73 = .ok (.invokestatic 132, 3) := by decide +kernel
theorem dX11_isB_76 : decode cX11_isB 76 = .ok (.ireturn, 1) := by decide +kernel
theorem dX11_isB_77 : decode cX11_isB 77 = .ok (.iload_n 1, 1) := by decide +kernel
theorem dX11_isB_78 : decode cX11_isB 78 = .ok (.iconst 0, 1) := by decide +kernel
theorem dX11_isB_79 : decode cX11_isB 79 = .ok (.iconst 3, 1) := by decide +kernel
theorem dX11_isB_80 : decode cX11_isB 80 = .ok (.invokestatic 132, 3) := by decide +kernel
theorem dX11_isB_83 : decode cX11_isB 83 = .ok (.ireturn, 1) := by decide +kernel
theorem dX11_isB_84 : decode cX11_isB 84 = .ok (.iload_n 1, 1) := by decide +kernel
theorem dX11_isB_85 : decode cX11_isB 85 = .ok (.iconst 0, 1) := by decide +kernel
theorem dX11_isB_86 : decode cX11_isB 86 = .ok (.bipush 23, 2) := by decide +kernel
theorem dX11_isB_88 : decode cX11_isB 88 = .ok (.invokestatic 132, 3) := by decide +kernel
theorem dX11_isB_91 : decode cX11_isB 91 = .ok (.ireturn, 1) := by decide +kernel
theorem dX11_isB_92 : decode cX11_isB 92 = .ok (.iload_n 1, 1) := by decide +kernel
theorem dX11_isB_93 : decode cX11_isB 93 = .ok (.iconst 0, 1) := by decide +kernel
theorem dX11_isB_94 : decode cX11_isB 94 = .ok (.bipush 8, 2) := by decide +kernel
theorem dX11_isB_96 : decode cX11_isB 96 = .ok (.invokestatic 132, 3) := by decide +kernel
theorem dX11_isB_99 : decode cX11_isB 99 = .ok (.ireturn, 1) := by decide +kernel
theorem dX11_isB_100 : decode cX11_isB 100 = .ok (.iload_n 1, 1) := by decide +kernel
theorem dX11_isB_101 : decode cX11_isB 101 = .ok (.iconst 0, 1) := by decide +kernel
theorem dX11_isB_102 : decode cX11_isB 102 = .ok (.iconst 1, 1) := by decide +kernel
theorem dX11_isB_103 : decode cX11_isB 103 = .ok (.invokestatic 132, 3) := by decide +kernel
theorem dX11_isB_106 : decode cX11_isB 106 = .ok (.ireturn, 1) := by decide +kernel
theorem dX11_isB_107 : decode cX11_isB 107 = .ok (.iload_n 1, 1) := by decide +kernel
theorem dX11_isB_108 : decode cX11_isB 108 = .ok (.iconst 0, 1) := by decide +kernel
theorem dX11_isB_109 : decode cX11_isB 109 = .ok (.iconst 2, 1) := by decide +kernel
theorem dX11_isB_110 : decode cX11_isB 110 = .ok (.invokestatic 132, 3) := by decide +kernel
theorem dX11_isB_113 : decode cX11_isB 113 = .ok (.ireturn, 1) := by decide +kernel
theorem dX11_isB_114 : decode cX11_isB 114 = .ok (.iload_n 1, 1) := by decide +kernel
theorem dX11_isB_115 : decode cX11_isB 115 = .ok (.iconst 0, 1) := by decide +kernel
theorem dX11_isB_116 : decode cX11_isB 116 = .ok (.bipush 7, 2) := by decide +kernel
theorem dX11_isB_118 : decode cX11_isB 118 = .ok (.invokestatic 132, 3) := by decide +kernel
theorem dX11_isB_121 : decode cX11_isB 121 = .ok (.ireturn, 1) := by decide +kernel
theorem dX11_isB_122 : decode cX11_isB 122 = .ok (.iconst 1, 1) := by decide +kernel
theorem dX11_isB_123 : decode cX11_isB 123 = .ok (.ireturn, 1) := by decide +kernel
theorem dX11_instruct_0 : decode cX11_instruct 0 = .ok (.iload_n 2, 1) := by decide +kernel
theorem dX11_instruct_1 : decode cX11_instruct 1 = .ok (.iconst 0, 1) := by decide +kernel
theorem dX11_instruct_2 : decode cX11_instruct 2 = .ok (.bipush 13, 2) := by decide +kernel
theorem dX11_instruct_4 : decode cX11_instruct 4 = .ok (.invokestatic 132, 3) := by decide +kernel
theorem dX11_instruct_7 : decode cX11_instruct 7 = .ok (.ifCond .eq 24, 3) := by decide +kernel
theorem dX11_instruct_10 : decode cX11_instruct 10 = .ok (.iload_n 2, 1) := by decide +kernel
theorem dX11_instruct_11 : decode cX11_instruct 11 = .ok (.iload_n 3, 1) := by decide +kernel
theorem dX11_instruct_12 : decode cX11_instruct 12 = .ok (.invokestatic 196, 3) := by decide +kernel
theorem dX11_instruct_15 : decode cX11_instruct 15 = .ok (.ifCond .eq 16, 3) := by decide +kernel
theorem dX11_instruct_18 : decode cX11_instruct 18 = .ok (.iload_n 2, 1) := by decide +kernel
theorem dX11_instruct_19 : decode cX11_instruct 19 = .ok (.iload 4, 2) := by decide +kernel
theorem dX11_instruct_21 : decode cX11_instruct 21 = .ok (.invokestatic 199, 3) := by decide +kernel
theorem dX11_instruct_24 : decode cX11_instruct 24 = .ok (.ifCond .eq 7, 3) := by decide +kernel
theorem dX11_instruct_27 : decode cX11_instruct 27 = .ok (.iconst 1, 1) := by decide +kernel
theorem dX11_instruct_28 : decode cX11_instruct 28 = .ok (.goto 4, 3) := by decide +kernel
theorem dX11_instruct_31 : decode cX11_instruct 31 = .ok (.iconst 0, 1) := by decide +kernel
theorem dX11_instruct_32 : decode cX11_instruct 32 = .ok (.istore 5, 2) := by decide +kernel
theorem dX11_instruct_34 : decode cX11_instruct 34 = .ok (.aload_n 0, 1) := by decide +kernel
theorem dX11_instruct_35 : decode cX11_instruct 35 = .ok (.aload_n 0, 1) := by decide +kernel
theorem dX11_instruct_36 : decode cX11_instruct 36 = .ok (.iload_n 1, 1) := by decide +kernel
theorem dX11_instruct_37 : decode cX11_instruct 37 = .ok (.invokevirtual 202, 3) := by decide +kernel
theorem dX11_instruct_40 : decode cX11_instruct 40 = .ok (.ifCond .ne 7, 3) := by decide +kernel
theorem dX11_instruct_43 : decode cX11_instruct 43 = .ok (.iconst 1, 1) := by decide +kernel
theorem dX11_instruct_44 : decode cX11_instruct 44 = .ok (.goto 46, 3) := by decide +kernel
theorem dX11_instruct_47 : decode cX11_instruct 47 = .ok (.iload 5, 2) := by decide +kernel
theorem dX11_instruct_49 : decode cX11_instruct 49 = .ok (.ifCond .ne 7, 3) := by decide +kernel
theorem dX11_instruct_52 : decode cX11_instruct 52 = .ok (.iconst 2, 1) := by decide +kernel
theorem dX11_instruct_53 : decode cX11_instruct 53 = .ok (.goto 37, 3) := by decide +kernel
theorem dX11_instruct_56 : decode cX11_instruct 56 = .ok (.aload_n 0, 1) := by decide +kernel
theorem dX11_instruct_57 : decode cX11_instruct 57 = .ok (.getfield 46, 3) := by decide +kernel
theorem dX11_instruct_60 : decode cX11_instruct 60 = .ok (.iload_n 1, 1) := by decide +kernel
theorem dX11_instruct_61 : decode cX11_instruct 61 = .ok (.iaload, 1) := by decide +kernel
theorem dX11_instruct_62 : decode cX11_instruct 62 = .ok (.bipush 24, 2) := by decide +kernel
theorem dX11_instruct_64 : decode cX11_instruct 64 = .ok (.if_icmp .eq 21, 3) := by decide +kernel
theorem dX11_instruct_67 : decode cX11_instruct 67 = .ok (.aload_n 0, 1) := by decide +kernel
theorem dX11_instruct_68 : decode cX11_instruct 68 = .ok (.getfield 77, 3) := by decide +kernel
theorem dX11_instruct_71 : decode cX11_instruct 71 = .ok (.iload_n 1, 1) := by decide +kernel
theorem dX11_instruct_72 : decode cX11_instruct 72 = .ok (.iaload, 1) := by decide +kernel
theorem dX11_instruct_73 : decode cX11_instruct 73 = .ok (.ifCond .gt 12, 3) := by decide +kernel
theorem dX11_instruct_76 : decode cX11_instruct 76 = .ok (.aload_n 0, 1) := by decide +kernel
theorem dX11_instruct_77 : decode cX11_instruct 77 = .ok (.getfield 62, 3) := by decide +kernel
theorem dX11_instruct_80 : decode cX11_instruct 80 = .ok (.iload_n 1, 1) := by decide +kernel
theorem dX11_instruct_81 : decode cX11_instruct 81 = .ok (.baload, 1) := by decide +kernel
theorem dX11_instruct_82 : decode cX11_instruct 82 = .ok (.ifCond .eq 7, 3) := by decide +kernel
theorem dX11_instruct_85 : decode cX11_instruct 85 = .ok (.iconst 3, 1) := by decide +kernel
theorem dX11_instruct_86 : decode cX11_instruct 86 = .ok (.goto 4, 3) := by decide +kernel
theorem dX11_instruct_89 : decode cX11_instruct 89 = .ok (.iconst 0, 1) := by decide +kernel
theorem dX11_instruct_90 : decode cX11_instruct 90 = .ok (.invokevirtual 192, 3) := by decide +kernel
theorem dX11_instruct_93 : decode cX11_instruct 93 = .ok (.ifCond .eq 5, 3) := by decide +kernel
theorem dX11_instruct_96 : decode cX11_instruct 96 = .ok (.iconst 0, 1) := by decide +kernel
theorem dX11_instruct_97 : decode cX11_instruct 97 = .ok (.ireturn, 1) := by decide +kernel
theorem dX11_instruct_98 : decode cX11_instruct 98 = .ok (.bipush 72, 2) := by decide +kernel
theorem dX11_instruct_100 : decode cX11_instruct 100 = .ok (.iload_n 1, 1) := by decide +kernel
theorem dX11_instruct_101 : decode cX11_instruct 101 = .ok (.imul, 1) := by decide +kernel
theorem dX11_instruct_102 : decode cX11_instruct 102 = .ok (.iconst 3, 1) := by decide +kernel
theorem dX11_instruct_103 : decode cX11_instruct 103 = .ok (.aload_n 0, 1) := by decide +kernel
theorem dX11_instruct_104 : decode cX11_instruct 104 = .ok (.getfield 46, 3) := by decide +kernel
theorem dX11_instruct_107 : decode cX11_instruct 107 = .ok (.iload_n 1, 1) := by decide +kernel
theorem dX11_instruct_108 : decode cX11_instruct 108 = .ok (.iaload, 1) := by decide +kernel
theorem dX11_instruct_109 : decode cX11_instruct 109 = .ok (.imul, 1) := by decide +kernel
theorem dX11_instruct_110 : decode cX11_instruct 110 = .ok (.iadd, 1) := by decide +kernel
theorem dX11_instruct_111 : decode cX11_instruct 111 = .ok (.istore 6, 2) := by decide +kernel
theorem dX11_instruct_113 : decode cX11_instruct 113 = .ok (.aload_n 0, 1) := by decide +kernel
theorem dX11_instruct_114 : decode cX11_instruct 114 = .ok (.getfield 43, 3) := by decide +kernel
theorem dX11_instruct_117 : decode cX11_instruct 117 = .ok (.iload 6, 2) := by decide +kernel
theorem dX11_instruct_119 : decode cX11_instruct 119 = .ok (.iload_n 2, 1) := by decide +kernel
theorem dX11_instruct_120 : decode cX11_instruct 120 = .ok (.iastore, 1) := by decide +kernel
theorem dX11_instruct_121 : decode cX11_instruct 121 = .ok (.aload_n 0, 1) := by decide +kernel
theorem dX11_instruct_122 : decode cX11_instruct 122 = .ok (.getfield 43, 3) := by decide +kernel
theorem dX11_instruct_125 : decode cX11_instruct 125 = .ok (.iload 6, 2) := by decide +kernel
theorem dX11_instruct_127 : decode cX11_instruct 127 = .ok (.iconst 1, 1) := by decide +kernel
theorem dX11_instruct_128 : decode cX11_instruct 128 = .ok (.iadd, 1) := by decide +kernel
theorem dX11_instruct_129 : decode cX11_instruct 129 = .ok (.iload_n 3, 1) := by decide +kernel
theorem dX11_instruct_130 : decode cX11_instruct 130 = .ok (.iastore, 1) := by decide +kernel
theorem dX11_instruct_131 : decode cX11_instruct 131 = .ok (.aload_n 0, 1) := by decide +kernel
theorem dX11_instruct_132 : decode cX11_instruct 132 = .ok (.getfield 43, 3) := by decide +kernel
theorem dX11_instruct_135 : decode cX11_instruct 135 = .ok (.iload 6, 2) := by decide +kernel
theorem dX11_instruct_137 : decode cX11_instruct 137 = .ok (.iconst 2, 1) := by decide +kernel
theorem dX11_instruct_138 : decode cX11_instruct 138 = .ok (.iadd, 1) := by decide +kernel
theorem dX11_instruct_139 : decode cX11_instruct 139 = .ok (.iload 4, 2) := by decide +kernel
theorem dX11_instruct_141 : decode cX11_instruct 141 = .ok (.iastore, 1) := by decide +kernel
theorem dX11_instruct_142 : decode cX11_instruct 142 = .ok (.aload_n 0, 1) := by decide +kernel
theorem dX11_instruct_143 : decode cX11_instruct 143 = .ok (.getfield 46, 3) := by decide +kernel
theorem dX11_instruct_146 : decode cX11_instruct 146 = .ok (.iload_n 1, 1) := by decide +kernel
theorem dX11_instruct_147 : decode cX11_instruct 147 = .ok (.dup2, 1) := by decide +kernel
theorem dX11_instruct_148 : decode cX11_instruct 148 = .ok (.iaload, 1) := by decide +kernel
theorem dX11_instruct_149 : decode cX11_instruct 149 = .ok (.iconst 1, 1) := by decide +kernel
theorem dX11_instruct_150 : decode cX11_instruct 150 = .ok (.iadd, 1) := by decide +kernel
theorem dX11_instruct_151 : decode cX11_instruct 151 = .ok (.iastore, 1) := by decide +kernel
theorem dX11_instruct_152 : decode cX11_instruct 152 = .ok (.aload_n 0, 1) := by decide +kernel
theorem dX11_instruct_153 : decode cX11_instruct 153 = .ok (.getfield 46, 3) := by decide +kernel
theorem dX11_instruct_156 : decode cX11_instruct 156 = .ok (.iload_n 1, 1) := by decide +kernel
theorem dX11_instruct_157 : decode cX11_instruct 157 = .ok (.iaload, 1) := by decide +kernel
theorem dX11_instruct_158 : decode cX11_instruct 158 = .ok (.iconst 1, 1) := by decide +kernel
theorem dX11_instruct_159 : decode cX11_instruct 159 = .ok (.isub, 1) := by decide +kernel
theorem dX11_instruct_160 : decode cX11_instruct 160 = .ok (.ireturn, 1) := by decide +kernel
theorem dX11_pause_0 : decode cX11_pause 0 = .ok (.aload_n 0, 1) := by decide +kernel
theorem dX11_pause_1 : decode cX11_pause 1 = .ok (.aload_n 0, 1) := by decide +kernel
theorem dX11_pause_2 : decode cX11_pause 2 = .ok (.iload_n 1, 1) := by decide +kernel
theorem dX11_pause_3 : decode cX11_pause 3 = .ok (.invokevirtual 202, 3) := by decide +kernel
theorem dX11_pause_6 : decode cX11_pause 6 = .ok (.ifCond .eq 7, 3) := by decide +kernel
theorem dX11_pause_9 : decode cX11_pause 9 = .ok (.iconst 0, 1) := by decide +kernel
theorem dX11_pause_10 : decode cX11_pause 10 = .ok (.goto 4, 3) := by decide +kernel
theorem dX11_pause_13 : decode cX11_pause 13 = .ok (.iconst 1, 1) := by decide +kernel
theorem dX11_pause_14 : decode cX11_pause 14 = .ok (.invokevirtual 192, 3) := by decide +kernel
theorem dX11_pause_17 : decode cX11_pause 17 = .ok (.ifCond .eq 5, 3) := by decide +kernel
theorem dX11_pause_20 : decode cX11_pause 20 = .ok (.iconst 0, 1) := by decide +kernel
theorem dX11_pause_21 : decode cX11_pause 21 = .ok (.ireturn, 1) := by decide +kernel
theorem dX11_pause_22 : decode cX11_pause 22 = .ok (.aload_n 0, 1) := by decide +kernel
theorem dX11_pause_23 : decode cX11_pause 23 = .ok (.getfield 59, 3) := by decide +kernel
theorem dX11_pause_26 : decode cX11_pause 26 = .ok (.iload_n 1, 1) := by decide +kernel
theorem dX11_pause_27 : decode cX11_pause 27 = .ok (.baload, 1) := by decide +kernel
theorem dX11_pause_28 : decode cX11_pause 28 = .ok (.istore_n 3, 1) := by decide +kernel
theorem dX11_pause_29 : decode cX11_pause 29 = .ok (.aload_n 0, 1) := by decide +kernel
theorem dX11_pause_30 : decode cX11_pause 30 = .ok (.getfield 59, 3) := by decide +kernel
theorem dX11_pause_33 : decode cX11_pause 33 = .ok (.iload_n 1, 1) := by decide +kernel
theorem dX11_pause_34 : decode cX11_pause 34 = .ok (.iload_n 2, 1) := by decide +kernel
theorem dX11_pause_35 : decode cX11_pause 35 = .ok (.bastore, 1) := by decide +kernel
theorem dX11_pause_36 : decode cX11_pause 36 = .ok (.iload_n 3, 1) := by decide +kernel
theorem dX11_pause_37 : decode cX11_pause 37 = .ok (.ireturn, 1) := by decide +kernel
theorem dX11_scale_0 : decode cX11_scale 0 = .ok (.aload_n 0, 1) := by decide +kernel
theorem dX11_scale_1 : decode cX11_scale 1 = .ok (.aload_n 0, 1) := by decide +kernel
theorem dX11_scale_2 : decode cX11_scale 2 = .ok (.iload_n 1, 1) := by decide +kernel
theorem dX11_scale_3 : decode cX11_scale 3 = .ok (.invokevirtual 202, 3) := by decide +kernel
theorem dX11_scale_6 : decode cX11_scale 6 = .ok (.ifCond .ne 7, 3) := by decide +kernel
theorem dX11_scale_9 : decode cX11_scale 9 = .ok (.iconst 1, 1) := by decide +kernel
theorem dX11_scale_10 : decode cX11_scale 10 = .ok (.goto 17, 3) := by decide +kernel
theorem dX11_scale_13 : decode cX11_scale 13 = .ok (.iload_n 2, 1) := by decide +kernel
theorem dX11_scale_14 : decode cX11_scale 14 = .ok (.iconst 1, 1) := by decide +kernel
theorem dX11_scale_15 : decode cX11_scale 15 = .ok (.iconst 3, 1) := by decide +kernel
theorem dX11_scale_16 : decode cX11_scale 16 = .ok (.invokestatic 132, 3) := by decide +kernel
theorem dX11_scale_19 : decode cX11_scale 19 = .ok (.ifCond .ne 7, 3) := by decide +kernel
theorem dX11_scale_22 : decode cX11_scale 22 = .ok (.iconst 2, 1) := by decide +kernel
theorem dX11_scale_23 : decode cX11_scale 23 = .ok (.goto 4, 3) := by decide +kernel
theorem dX11_scale_26 : decode cX11_scale 26 = .ok (.iconst 0, 1) := by decide +kernel
theorem dX11_scale_27 : decode cX11_scale 27 = .ok (.invokevirtual 192, 3) := by decide +kernel
theorem dX11_scale_30 : decode cX11_scale 30 = .ok (.ifCond .eq 5, 3) := by decide +kernel
theorem dX11_scale_33 : decode cX11_scale 33 = .ok (.iconst 0, 1) := by decide +kernel
theorem dX11_scale_34 : decode cX11_scale 34 = .ok (.ireturn, 1) := by decide +kernel
theorem dX11_scale_35 : decode cX11_scale 35 = .ok (.aload_n 0, 1) := by decide +kernel
theorem dX11_scale_36 : decode cX11_scale 36 = .ok (.getfield 65, 3) := by decide +kernel
theorem dX11_scale_39 : decode cX11_scale 39 = .ok (.iload_n 1, 1) := by decide +kernel
theorem dX11_scale_40 : decode cX11_scale 40 = .ok (.iaload, 1) := by decide +kernel
theorem dX11_scale_41 : decode cX11_scale 41 = .ok (.istore_n 3, 1) := by decide +kernel
theorem dX11_scale_42 : decode cX11_scale 42 = .ok (.aload_n 0, 1) := by decide +kernel
theorem dX11_scale_43 : decode cX11_scale 43 = .ok (.iload_n 1, 1) := by decide +kernel
theorem dX11_scale_44 : decode cX11_scale 44 = .ok (.invokevirtual 175, 3) := by decide +kernel
theorem dX11_scale_47 : decode cX11_scale 47 = .ok (.istore 4, 2) := by decide +kernel
theorem dX11_scale_49 : decode cX11_scale 49 = .ok (.aload_n 0, 1) := by decide +kernel
theorem dX11_scale_50 : decode cX11_scale 50 = .ok (.getfield 65, 3) := by decide +kernel
theorem dX11_scale_53 : decode cX11_scale 53 = .ok (.iload_n 1, 1) := by decide +kernel
theorem dX11_scale_54 : decode cX11_scale 54 = .ok (.iload_n 2, 1) := by decide +kernel
theorem dX11_scale_55 : decode cX11_scale 55 = .ok (.iastore, 1) := by decide +kernel
theorem dX11_scale_56 : decode cX11_scale 56 = .ok (.aload_n 0, 1) := by decide +kernel
theorem dX11_scale_57 : decode cX11_scale 57 = .ok (.iload_n 1, 1) := by decide +kernel
theorem dX11_scale_58 : decode cX11_scale 58 = .ok (.iload 4, 2) := by decide +kernel
theorem dX11_scale_60 : decode cX11_scale 60 = .ok (.invokevirtual 205, 3) := by decide +kernel
theorem dX11_scale_63 : decode cX11_scale 63 = .ok (.iload_n 3, 1) := by decide +kernel
theorem dX11_scale_64 : decode cX11_scale 64 = .ok (.ireturn, 1) := by decide +kernel
theorem dX11_input_0 : decode cX11_input 0 = .ok (.aload_n 0, 1) := by decide +kernel
theorem dX11_input_1 : decode cX11_input 1 = .ok (.aload_n 0, 1) := by decide +kernel
theorem dX11_input_2 : decode cX11_input 2 = .ok (.iload_n 1, 1) := by decide +kernel
theorem dX11_input_3 : decode cX11_input 3 = .ok (.invokevirtual 202, 3) := by decide +kernel
theorem dX11_input_6 : decode cX11_input 6 = .ok (.ifCond .ne 7, 3) := by decide +kernel
theorem dX11_input_9 : decode cX11_input 9 = .ok (.iconst 1, 1) := by decide +kernel
theorem dX11_input_10 : decode cX11_input 10 = .ok (.goto 40, 3) := by decide +kernel
theorem dX11_input_13 : decode cX11_input 13 = .ok (.iload_n 2, 1) := by decide +kernel
theorem dX11_input_14 : decode cX11_input 14 = .ok (.iconst 0, 1) := by decide +kernel
theorem dX11_input_15 : decode cX11_input 15 = .ok (.sipush 9999, 3) := by decide +kernel
theorem dX11_input_18 : decode cX11_input 18 = .ok (.invokestatic 132, 3) := by decide +kernel
theorem dX11_input_21 : decode cX11_input 21 = .ok (.ifCond .ne 7, 3) := by decide +kernel
theorem dX11_input_24 : decode cX11_input 24 = .ok (.iconst 2, 1) := by decide +kernel
theorem dX11_input_25 : decode cX11_input 25 = .ok (.goto 25, 3) := by decide +kernel
theorem dX11_input_28 : decode cX11_input 28 = .ok (.aload_n 0, 1) := by decide +kernel
theorem dX11_input_29 : decode cX11_input 29 = .ok (.getfield 7, 3) := by decide +kernel
theorem dX11_input_32 : decode cX11_input 32 = .ok (.bipush 55, 2) := by decide +kernel
theorem dX11_input_34 : decode cX11_input 34 = .ok (.iload_n 1, 1) := by decide +kernel
theorem dX11_input_35 : decode cX11_input 35 = .ok (.imul, 1) := by decide +kernel
theorem dX11_input_36 : decode cX11_input 36 = .ok (.bipush 54, 2) := by decide +kernel
theorem dX11_input_38 : decode cX11_input 38 = .ok (.iadd, 1) := by decide +kernel
theorem dX11_input_39 : decode cX11_input 39 = .ok (.iaload, 1) := by decide +kernel
theorem dX11_input_40 : decode cX11_input 40 = .ok (.bipush 20, 2) := by decide +kernel
theorem dX11_input_42 : decode cX11_input 42 = .ok (.if_icmp .lt 7, 3) := by decide +kernel
theorem dX11_input_45 : decode cX11_input 45 = .ok (.iconst 3, 1) := by decide +kernel
theorem dX11_input_46 : decode cX11_input 46 = .ok (.goto 4, 3) := by decide +kernel
theorem dX11_input_49 : decode cX11_input 49 = .ok (.iconst 0, 1) := by decide +kernel
theorem dX11_input_50 : decode cX11_input 50 = .ok (.invokevirtual 192, 3) := by decide +kernel
theorem dX11_input_53 : decode cX11_input 53 = .ok (.ifCond .eq 5, 3) := by decide +kernel
theorem dX11_input_56 : decode cX11_input 56 = .ok (.iconst 0, 1) := by decide +kernel
theorem dX11_input_57 : decode cX11_input 57 = .ok (.ireturn, 1) := by decide +kernel
theorem dX11_input_58 : decode cX11_input 58 = .ok (.bipush 55, 2) := by decide +kernel
theorem dX11_input_60 : decode cX11_input 60 = .ok (.iload_n 1, 1) := by decide +kernel
theorem dX11_input_61 : decode cX11_input 61 = .ok (.imul, 1) := by decide +kernel
theorem dX11_input_62 : decode cX11_input 62 = .ok (.istore_n 3, 1) := by decide +kernel
theorem dX11_input_63 : decode cX11_input 63 = .ok (.aload_n 0, 1) := by decide +kernel
theorem dX11_input_64 : decode cX11_input 64 = .ok (.getfield 13, 3) := by decide +kernel
theorem dX11_input_67 : decode cX11_input 67 = .ok (.sipush 512, 3) := by decide +kernel
theorem dX11_input_70 : decode cX11_input 70 = .ok (.iload_n 1, 1) := by decide +kernel
theorem dX11_input_71 : decode cX11_input 71 = .ok (.imul, 1) := by decide +kernel
theorem dX11_input_72 : decode cX11_input 72 = .ok (.aload_n 0, 1) := by decide +kernel
theorem dX11_input_73 : decode cX11_input 73 = .ok (.getfield 7, 3) := by decide +kernel
theorem dX11_input_76 : decode cX11_input 76 = .ok (.iload_n 3, 1) := by decide +kernel
theorem dX11_input_77 : decode cX11_input 77 = .ok (.bipush 54, 2) := by decide +kernel
theorem dX11_input_79 : decode cX11_input 79 = .ok (.iadd, 1) := by decide +kernel
theorem dX11_input_80 : decode cX11_input 80 = .ok (.iaload, 1) := by decide +kernel
theorem dX11_input_81 : decode cX11_input 81 = .ok (.iadd, 1) := by decide +kernel
theorem dX11_input_82 : decode cX11_input 82 = .ok (.iload_n 2, 1) := by decide +kernel
theorem dX11_input_83 : decode cX11_input 83 = .ok (.iastore, 1) := by decide +kernel
theorem dX11_input_84 : decode cX11_input 84 = .ok (.aload_n 0, 1) := by decide +kernel
theorem dX11_input_85 : decode cX11_input 85 = .ok (.getfield 7, 3) := by decide +kernel
theorem dX11_input_88 : decode cX11_input 88 = .ok (.iload_n 3, 1) := by decide +kernel
theorem dX11_input_89 : decode cX11_input 89 = .ok (.bipush 54, 2) := by decide +kernel
theorem dX11_input_91 : decode cX11_input 91 = .ok (.iadd, 1) := by decide +kernel
theorem dX11_input_92 : decode cX11_input 92 = .ok (.dup2, 1) := by decide +kernel
theorem dX11_input_93 : decode cX11_input 93 = .ok (.iaload, 1) := by decide +kernel
theorem dX11_input_94 : decode cX11_input 94 = .ok (.iconst 1, 1) := by decide +kernel
theorem dX11_input_95 : decode cX11_input 95 = .ok (.iadd, 1) := by decide +kernel
theorem dX11_input_96 : decode cX11_input 96 = .ok (.iastore, 1) := by decide +kernel
theorem dX11_input_97 : decode cX11_input 97 = .ok (.aload_n 0, 1) := by decide +kernel
theorem dX11_input_98 : decode cX11_input 98 = .ok (.getfield 101, 3) := by decide +kernel
theorem dX11_input_101 : decode cX11_input 101 = .ok (.iload_n 1, 1) := by decide +kernel
theorem dX11_input_102 : decode cX11_input 102 = .ok (.baload, 1) := by decide +kernel
theorem dX11_input_103 : decode cX11_input 103 = .ok (.ifCond .eq 31, 3) := by decide +kernel
theorem dX11_input_106 : decode cX11_input 106 = .ok (.aload_n 0, 1) := by decide +kernel
theorem dX11_input_107 : decode cX11_input 107 = .ok (.getfield 22, 3) := by decide +kernel
theorem dX11_input_110 : decode cX11_input 110 = .ok (.sipush 512, 3) := by decide +kernel
theorem dX11_input_113 : decode cX11_input 113 = .ok (.iload_n 1, 1) := by decide +kernel
theorem dX11_input_114 : decode cX11_input 114 = .ok (.imul, 1) := by decide +kernel
theorem dX11_input_115 : decode cX11_input 115 = .ok (.aload_n 0, 1) := by decide +kernel
theorem dX11_input_116 : decode cX11_input 116 = .ok (.getfield 25, 3) := by decide +kernel
theorem dX11_input_119 : decode cX11_input 119 = .ok (.iload_n 1, 1) := by decide +kernel
theorem dX11_input_120 : decode cX11_input 120 = .ok (.iaload, 1) := by decide +kernel
theorem dX11_input_121 : decode cX11_input 121 = .ok (.iadd, 1) := by decide +kernel
theorem dX11_input_122 : decode cX11_input 122 = .ok (.iload_n 2, 1) := by decide +kernel
theorem dX11_input_123 : decode cX11_input 123 = .ok (.iastore, 1) := by decide +kernel
theorem dX11_input_124 : decode cX11_input 124 = .ok (.aload_n 0, 1) := by decide +kernel
theorem dX11_input_125 : decode cX11_input 125 = .ok (.getfield 25, 3) := by decide +kernel
theorem dX11_input_128 : decode cX11_input 128 = .ok (.iload_n 1, 1) := by decide +kernel
theorem dX11_input_129 : decode cX11_input 129 = .ok (.dup2, 1) := by decide +kernel
theorem dX11_input_130 : decode cX11_input 130 = .ok (.iaload, 1) := by decide +kernel
theorem dX11_input_131 : decode cX11_input 131 = .ok (.iconst 1, 1) := by decide +kernel
theorem dX11_input_132 : decode cX11_input 132 = .ok (.iadd, 1) := by decide +kernel
theorem dX11_input_133 : decode cX11_input 133 = .ok (.iastore, 1) := by decide +kernel
theorem dX11_input_134 : decode cX11_input 134 = .ok (.aload_n 0, 1) := by decide +kernel
theorem dX11_input_135 : decode cX11_input 135 = .ok (.getfield 7, 3) := by decide +kernel
theorem dX11_input_138 : decode cX11_input 138 = .ok (.iload_n 3, 1) := by decide +kernel
theorem dX11_input_139 : decode cX11_input 139 = .ok (.bipush 54, 2) := by decide +kernel
theorem dX11_input_141 : decode cX11_input 141 = .ok (.iadd, 1) := by decide +kernel
theorem dX11_input_142 : decode cX11_input 142 = .ok (.iaload, 1) := by decide +kernel
theorem dX11_input_143 : decode cX11_input 143 = .ok (.ireturn, 1) := by decide +kernel
theorem dX11_send_0 : decode cX11_send 0 = .ok (.aload_n 0, 1) := by decide +kernel
theorem dX11_send_1 : decode cX11_send 1 = .ok (.iload_n 1, 1) := by decide +kernel
theorem dX11_send_2 : decode cX11_send 2 = .ok (.invokevirtual 202, 3) := by decide +kernel
theorem dX11_send_5 : decode cX11_send 5 = .ok (.istore_n 2, 1) := by decide +kernel
theorem dX11_send_6 : decode cX11_send 6 = .ok (.iload_n 2, 1) := by decide +kernel
theorem dX11_send_7 : decode cX11_send 7 = .ok (.ifCond .eq 18, 3) := by decide +kernel
theorem dX11_send_10 : decode cX11_send 10 = .ok (.aload_n 0, 1) := by decide +kernel
theorem dX11_send_11 : decode cX11_send 11 = .ok (.getfield 7, 3) := by decide +kernel
theorem dX11_send_14 : decode cX11_send 14 = .ok (.bipush 55, 2) := by decide +kernel
theorem dX11_send_16 : decode cX11_send 16 = .ok (.iload_n 1, 1) := by decide +kernel
theorem dX11_send_17 : decode cX11_send 17 = .ok (.imul, 1) := by decide +kernel
theorem dX11_send_18 : decode cX11_send 18 = .ok (.bipush 49, 2) := by decide +kernel
theorem dX11_send_20 : decode cX11_send 20 = .ok (.iadd, 1) := by decide +kernel
theorem dX11_send_21 : decode cX11_send 21 = .ok (.iaload, 1) := by decide +kernel
theorem dX11_send_22 : decode cX11_send 22 = .ok (.goto 4, 3) := by decide +kernel
theorem dX11_send_25 : decode cX11_send 25 = .ok (.iconst 0, 1) := by decide +kernel
theorem dX11_send_26 : decode cX11_send 26 = .ok (.istore_n 3, 1) := by decide +kernel
theorem dX11_send_27 : decode cX11_send 27 = .ok (.aload_n 0, 1) := by decide +kernel
theorem dX11_send_28 : decode cX11_send 28 = .ok (.iload_n 2, 1) := by decide +kernel
theorem dX11_send_29 : decode cX11_send 29 = .ok (.ifCond .ne 7, 3) := by decide +kernel
theorem dX11_send_32 : decode cX11_send 32 = .ok (.iconst 1, 1) := by decide +kernel
theorem dX11_send_33 : decode cX11_send 33 = .ok (.goto 18, 3) := by decide +kernel
theorem dX11_send_36 : decode cX11_send 36 = .ok (.iload_n 3, 1) := by decide +kernel
theorem dX11_send_37 : decode cX11_send 37 = .ok (.iconst 2, 1) := by decide +kernel
theorem dX11_send_38 : decode cX11_send 38 = .ok (.if_icmp .eq 8, 3) := by decide +kernel
theorem dX11_send_41 : decode cX11_send 41 = .ok (.iload_n 3, 1) := by decide +kernel
theorem dX11_send_42 : decode cX11_send 42 = .ok (.iconst 3, 1) := by decide +kernel
theorem dX11_send_43 : decode cX11_send 43 = .ok (.if_icmp .ne 7, 3) := by decide +kernel
theorem dX11_send_46 : decode cX11_send 46 = .ok (.iconst 2, 1) := by decide +kernel
theorem dX11_send_47 : decode cX11_send 47 = .ok (.goto 4, 3) := by decide +kernel
theorem dX11_send_50 : decode cX11_send 50 = .ok (.iconst 0, 1) := by decide +kernel
theorem dX11_send_51 : decode cX11_send 51 = .ok (.invokevirtual 192, 3) := by decide +kernel
theorem dX11_send_54 : decode cX11_send 54 = .ok (.ifCond .eq 5, 3) := by decide +kernel
theorem dX11_send_57 : decode cX11_send 57 = .ok (.iconst 0, 1) := by decide +kernel
theorem dX11_send_58 : decode cX11_send 58 = .ok (.ireturn, 1) := by decide +kernel
theorem dX11_send_59 : decode cX11_send 59 = .ok (.bipush 55, 2) := by decide +kernel
theorem dX11_send_61 : decode cX11_send 61 = .ok (.iload_n 1, 1) := by decide +kernel
theorem dX11_send_62 : decode cX11_send 62 = .ok (.imul, 1) := by decide +kernel
theorem dX11_send_63 : decode cX11_send 63 = .ok (.istore 4, 2) := by decide +kernel
theorem dX11_send_65 : decode cX11_send 65 = .ok (.aload_n 0, 1) := by decide +kernel
theorem dX11_send_66 : decode cX11_send 66 = .ok (.getfield 7, 3) := by decide +kernel
theorem dX11_send_69 : decode cX11_send 69 = .ok (.iload 4, 2) := by decide +kernel
theorem dX11_send_71 : decode cX11_send 71 = .ok (.bipush 52, 2) := by decide +kernel
theorem dX11_send_73 : decode cX11_send 73 = .ok (.iadd, 1) := by decide +kernel
theorem dX11_send_74 : decode cX11_send 74 = .ok (.iaload, 1) := by decide +kernel
theorem dX11_send_75 : decode cX11_send 75 = .ok (.iconst 1, 1) := by decide +kernel
theorem dX11_send_76 : decode cX11_send 76 = .ok (.if_icmp .ne 7, 3) := by decide +kernel
theorem dX11_send_79 : decode cX11_send 79 = .ok (.iconst 1, 1) := by decide +kernel
theorem dX11_send_80 : decode cX11_send 80 = .ok (.goto 4, 3) := by decide +kernel
theorem dX11_send_83 : decode cX11_send 83 = .ok (.iconst 0, 1) := by decide +kernel
theorem dX11_send_84 : decode cX11_send 84 = .ok (.istore 5, 2) := by decide +kernel
theorem dX11_send_86 : decode cX11_send 86 = .ok (.aload_n 0, 1) := by decide +kernel
theorem dX11_send_87 : decode cX11_send 87 = .ok (.getfield 7, 3) := by decide +kernel
theorem dX11_send_90 : decode cX11_send 90 = .ok (.iload 4, 2) := by decide +kernel
theorem dX11_send_92 : decode cX11_send 92 = .ok (.bipush 52, 2) := by decide +kernel
theorem dX11_send_94 : decode cX11_send 94 = .ok (.iadd, 1) := by decide +kernel
theorem dX11_send_95 : decode cX11_send 95 = .ok (.iconst 1, 1) := by decide +kernel
theorem dX11_send_96 : decode cX11_send 96 = .ok (.iastore, 1) := by decide +kernel
theorem dX11_send_97 : decode cX11_send 97 = .ok (.aload_n 0, 1) := by decide +kernel
theorem dX11_send_98 : decode cX11_send 98 = .ok (.getfield 7, 3) := by decide +kernel
theorem dX11_send_101 : decode cX11_send 101 = .ok (.iload 4, 2) := by decide +kernel
theorem dX11_send_103 : decode cX11_send 103 = .ok (.bipush 49, 2) := by decide +kernel
theorem dX11_send_105 : decode cX11_send 105 = .ok (.iadd, 1) := by decide +kernel
theorem dX11_send_106 : decode cX11_send 106 = .ok (.iconst 0, 1) := by decide +kernel
theorem dX11_send_107 : decode cX11_send 107 = .ok (.iastore, 1) := by decide +kernel
theorem dX11_send_108 : decode cX11_send 108 = .ok (.iload 5, 2) := by decide +kernel
theorem dX11_send_110 : decode cX11_send 110 = .ok (.ireturn, 1) := by decide +kernel
theorem dX11_tick_0 : decode cX11_tick 0 = .ok (.aload_n 0, 1) := by decide +kernel
theorem dX11_tick_1 : decode cX11_tick 1 = .ok (.iload_n 1, 1) := by decide +kernel
theorem dX11_tick_2 : decode cX11_tick 2 = .ok (.iconst 1, 1) := by decide +kernel
theorem dX11_tick_3 : decode cX11_tick 3 = .ok (.bipush 100, 2) := by decide +kernel
theorem dX11_tick_5 : decode cX11_tick 5 = .ok (.invokestatic 132, 3) := by decide +kernel
theorem dX11_tick_8 : decode cX11_tick 8 = .ok (.ifCond .ne 7, 3) := by decide +kernel
theorem dX11_tick_11 : decode cX11_tick 11 = .ok (.iconst 1, 1) := by decide +kernel
theorem dX11_tick_12 : decode cX11_tick 12 = .ok (.goto 20, 3) := by decide +kernel
theorem dX11_tick_15 : decode cX11_tick 15 = .ok (.aload_n 0, 1) := by decide +kernel
theorem dX11_tick_16 : decode cX11_tick 16 = .ok (.getfield 136, 3) := by decide +kernel
theorem dX11_tick_19 : decode cX11_tick 19 = .ok (.iload_n 1, 1) := by decide +kernel
theorem dX11_tick_20 : decode cX11_tick 20 = .ok (.iadd, 1) := by decide +kernel
theorem dX11_tick_21 : decode cX11_tick 21 = .ok (.sipush 3000, 3) := by decide +kernel
theorem dX11_tick_24 : decode cX11_tick 24 = .ok (.if_icmp .le 7, 3) := by decide +kernel
theorem dX11_tick_27 : decode cX11_tick 27 = .ok (.iconst 2, 1) := by decide +kernel
theorem dX11_tick_28 : decode cX11_tick 28 = .ok (.goto 4, 3) := by decide +kernel
theorem dX11_tick_31 : decode cX11_tick 31 = .ok (.iconst 0, 1) := by decide +kernel
theorem dX11_tick_32 : decode cX11_tick 32 = .ok (.invokevirtual 192, 3) := by decide +kernel
theorem dX11_tick_35 : decode cX11_tick 35 = .ok (.ifCond .eq 5, 3) := by decide +kernel
theorem dX11_tick_38 : decode cX11_tick 38 = .ok (.iconst 0, 1) := by decide +kernel
theorem dX11_tick_39 : decode cX11_tick 39 = .ok (.ireturn, 1) := by decide +kernel
theorem dX11_tick_40 : decode cX11_tick 40 = .ok (.iconst 0, 1) := by decide +kernel
theorem dX11_tick_41 : decode cX11_tick 41 = .ok (.istore_n 2, 1) := by decide +kernel
theorem dX11_tick_42 : decode cX11_tick 42 = .ok (.iload_n 2, 1) := by decide +kernel
theorem dX11_tick_43 : decode cX11_tick 43 = .ok (.iload_n 1, 1) := by decide +kernel
theorem dX11_tick_44 : decode cX11_tick 44 = .ok (.if_icmp .ge 13, 3) := by decide +kernel
theorem dX11_tick_47 : decode cX11_tick 47 = .ok (.aload_n 0, 1) := by decide +kernel
theorem dX11_tick_48 : decode cX11_tick 48 = .ok (.invokevirtual 208, 3) := by decide +kernel
theorem dX11_tick_51 : decode cX11_tick 51 = .ok (.iinc 2 1, 3) := by decide +kernel
theorem dX11_tick_54 : decode cX11_tick 54 = .ok (.goto (-12), 3) := by decide +kernel
theorem dX11_tick_57 : decode cX11_tick 57 = .ok (.aload_n 0, 1) := by decide +kernel
theorem dX11_tick_58 : decode cX11_tick 58 = .ok (.getfield 136, 3) := by decide +kernel
theorem dX11_tick_61 : decode cX11_tick 61 = .ok (.ireturn, 1) := by decide +kernel
theorem dX11_areLike_0 : decode cX11_areLike 0 = .ok (.iconst 1, 1) := by decide +kernel
theorem dX11_areLike_1 : decode cX11_areLike 1 = .ok (.istore_n 3, 1) := by decide +kernel
theorem dX11_areLike_2 : decode cX11_areLike 2 = .ok (.iconst 0, 1) := by decide +kernel
theorem dX11_areLike_3 : decode cX11_areLike 3 = .ok (.istore 4, 2) := by decide +kernel
theorem dX11_areLike_5 : decode cX11_areLike 5 = .ok (.iload 4, 2) := by decide +kernel
theorem dX11_areLike_7 : decode cX11_areLike 7 = .ok (.iconst 4, 1) := by decide +kernel
theorem dX11_areLike_8 : decode cX11_areLike 8 = .ok (.if_icmp .ge 72, 3) := by decide +kernel
theorem dX11_areLike_11 : decode cX11_areLike 11 = .ok (.iload_n 3, 1) := by decide +kernel
theorem dX11_areLike_12 : decode cX11_areLike 12 = .ok (.ifCond .eq 60, 3) := by decide +kernel
theorem dX11_areLike_15 : decode cX11_areLike 15 = .ok (.aload_n 0, 1) := by decide +kernel
theorem dX11_areLike_16 : decode cX11_areLike 16 = .ok (.getfield 7, 3) := by decide +kernel
theorem dX11_areLike_19 : decode cX11_areLike 19 = .ok (.bipush 55, 2) := by decide +kernel
theorem dX11_areLike_21 : decode cX11_areLike 21 = .ok (.iload_n 1, 1) := by decide +kernel
theorem dX11_areLike_22 : decode cX11_areLike 22 = .ok (.bipush 8, 2) := by decide +kernel
theorem dX11_areLike_24 : decode cX11_areLike 24 = .ok (.idiv, 1) := by decide +kernel
theorem dX11_areLike_25 : decode cX11_areLike 25 = .ok (.imul, 1) := by decide +kernel
theorem dX11_areLike_26 : decode cX11_areLike 26 = .ok (.bipush 17, 2) := by decide +kernel
theorem dX11_areLike_28 : decode cX11_areLike 28 = .ok (.iadd, 1) := by decide +kernel
theorem dX11_areLike_29 : decode cX11_areLike 29 = .ok (.iconst 4, 1) := by decide +kernel
theorem dX11_areLike_30 : decode cX11_areLike 30 = .ok (.iload_n 1, 1) := by decide +kernel
theorem dX11_areLike_31 : decode cX11_areLike 31 = .ok (.bipush 8, 2) := by decide +kernel
theorem dX11_areLike_33 : decode cX11_areLike 33 = .ok (.irem, 1) := by decide +kernel
theorem dX11_areLike_34 : decode cX11_areLike 34 = .ok (.imul, 1) := by decide +kernel
theorem dX11_areLike_35 : decode cX11_areLike 35 = .ok (.iadd, 1) := by decide +kernel
theorem dX11_areLike_36 : decode cX11_areLike 36 = .ok (.iload 4, 2) := by decide +kernel
theorem dX11_areLike_38 : decode cX11_areLike 38 = .ok (.iadd, 1) := by decide +kernel
theorem dX11_areLike_39 : decode cX11_areLike 39 = .ok (.iaload, 1) := by decide +kernel
theorem dX11_areLike_40 : decode cX11_areLike 40 = .ok (.aload_n 0, 1) := by decide +kernel
theorem dX11_areLike_41 : decode cX11_areLike 41 = .ok (.getfield 7, 3) := by decide +kernel
theorem dX11_areLike_44 : decode cX11_areLike 44 = .ok (.bipush 55, 2) := by decide +kernel
theorem dX11_areLike_46 : decode cX11_areLike 46 = .ok (.iload_n 2, 1) := by decide +kernel
theorem dX11_areLike_47 : decode cX11_areLike 47 = .ok (.bipush 8, 2) := by decide +kernel
theorem dX11_areLike_49 : decode cX11_areLike 49 = .ok (.idiv, 1) := by decide +kernel
theorem dX11_areLike_50 : decode cX11_areLike 50 = .ok (.imul, 1) := by decide +kernel
theorem dX11_areLike_51 : decode cX11_areLike 51 = .ok (.bipush 17, 2) := by decide +kernel
theorem dX11_areLike_53 : decode cX11_areLike 53 = .ok (.iadd, 1) := by decide +kernel
theorem dX11_areLike_54 : decode cX11_areLike 54 = .ok (.iconst 4, 1) := by decide +kernel
theorem dX11_areLike_55 : decode cX11_areLike 55 = .ok (.iload_n 2, 1) := by decide +kernel
theorem dX11_areLike_56 : decode cX11_areLike 56 = .ok (.bipush 8, 2) := by decide +kernel
theorem dX11_areLike_58 : decode cX11_areLike 58 = .ok (.irem, 1) := by decide +kernel
theorem dX11_areLike_59 : decode cX11_areLike 59 = .ok (.imul, 1) := by decide +kernel
theorem dX11_areLike_60 : decode cX11_areLike 60 = .ok (.iadd, 1) := by decide +kernel
theorem dX11_areLike_61 : decode cX11_areLike 61 = .ok (.iload 4, 2) := by decide +kernel
theorem dX11_areLike_63 : decode cX11_areLike 63 = .ok (.iadd, 1) := by decide +kernel
theorem dX11_areLike_64 : decode cX11_areLike 64 = .ok (.iaload, 1) := by decide +kernel
theorem dX11_areLike_65 : decode cX11_areLike 65 = .ok (.if_icmp .ne 7, 3) := by decide +kernel
theorem dX11_areLike_68 : decode cX11_areLike 68 = .ok (.iconst 1, 1) := by decide +kernel
theorem dX11_areLike_69 : decode cX11_areLike 69 = .ok (.goto 4, 3) := by decide +kernel
theorem dX11_areLike_72 : decode cX11_areLike 72 = .ok (.iconst 0, 1) := by decide +kernel
theorem dX11_areLike_73 : decode cX11_areLike 73 = .ok (.istore_n 3, 1) := by decide +kernel
theorem dX11_areLike_74 : decode cX11_areLike 74 = .ok (.iinc 4 1, 3) := by decide +kernel
theorem dX11_areLike_77 : decode cX11_areLike 77 = .ok (.goto (-72), 3) := by decide +kernel
theorem dX11_areLike_80 : decode cX11_areLike 80 = .ok (.iload_n 3, 1) := by decide +kernel
theorem dX11_areLike_81 : decode cX11_areLike 81 = .ok (.ireturn, 1) := by decide +kernel
theorem dX11_canShare_0 : decode cX11_canShare 0 = .ok (.iload_n 1, 1) := by decide +kernel
theorem dX11_canShare_1 : decode cX11_canShare 1 = .ok (.iconst (-1), 1) := by decide +kernel
theorem dX11_canShare_2 : decode cX11_canShare 2 = .ok (.if_icmp .eq 19, 3) := by decide +kernel
theorem dX11_canShare_5 : decode cX11_canShare 5 = .ok (.aload_n 0, 1) := by decide +kernel
theorem dX11_canShare_6 : decode cX11_canShare 6 = .ok (.getfield 55, 3) := by decide +kernel
theorem dX11_canShare_9 : decode cX11_canShare 9 = .ok (.iload_n 1, 1) := by decide +kernel
theorem dX11_canShare_10 : decode cX11_canShare 10 = .ok (.bipush 8, 2) := by decide +kernel
theorem dX11_canShare_12 : decode cX11_canShare 12 = .ok (.idiv, 1) := by decide +kernel
theorem dX11_canShare_13 : decode cX11_canShare 13 = .ok (.baload, 1) := by decide +kernel
theorem dX11_canShare_14 : decode cX11_canShare 14 = .ok (.ifCond .ne 7, 3) := by decide +kernel
theorem dX11_canShare_17 : decode cX11_canShare 17 = .ok (.iconst 1, 1) := by decide +kernel
theorem dX11_canShare_18 : decode cX11_canShare 18 = .ok (.goto 4, 3) := by decide +kernel
theorem dX11_canShare_21 : decode cX11_canShare 21 = .ok (.iconst 0, 1) := by decide +kernel
theorem dX11_canShare_22 : decode cX11_canShare 22 = .ok (.ireturn, 1) := by decide +kernel
theorem dX11_share_0 : decode cX11_share 0 = .ok (.aload_n 0, 1) := by decide +kernel
theorem dX11_share_1 : decode cX11_share 1 = .ok (.iload_n 1, 1) := by decide +kernel
theorem dX11_share_2 : decode cX11_share 2 = .ok (.iconst 0, 1) := by decide +kernel
theorem dX11_share_3 : decode cX11_share 3 = .ok (.iconst 1, 1) := by decide +kernel
theorem dX11_share_4 : decode cX11_share 4 = .ok (.invokestatic 132, 3) := by decide +kernel
theorem dX11_share_7 : decode cX11_share 7 = .ok (.ifCond .eq 7, 3) := by decide +kernel
theorem dX11_share_10 : decode cX11_share 10 = .ok (.iconst 0, 1) := by decide +kernel
theorem dX11_share_11 : decode cX11_share 11 = .ok (.goto 4, 3) := by decide +kernel
theorem dX11_share_14 : decode cX11_share 14 = .ok (.iconst 1, 1) := by decide +kernel
theorem dX11_share_15 : decode cX11_share 15 = .ok (.invokevirtual 192, 3) := by decide +kernel
theorem dX11_share_18 : decode cX11_share 18 = .ok (.ifCond .eq 5, 3) := by decide +kernel
theorem dX11_share_21 : decode cX11_share 21 = .ok (.iconst 0, 1) := by decide +kernel
theorem dX11_share_22 : decode cX11_share 22 = .ok (.ireturn, 1) := by decide +kernel
theorem dX11_share_23 : decode cX11_share 23 = .ok (.iconst 0, 1) := by decide +kernel
theorem dX11_share_24 : decode cX11_share 24 = .ok (.istore_n 2, 1) := by decide +kernel
theorem dX11_share_25 : decode cX11_share 25 = .ok (.iconst 0, 1) := by decide +kernel
theorem dX11_share_26 : decode cX11_share 26 = .ok (.istore_n 3, 1) := by decide +kernel
theorem dX11_share_27 : decode cX11_share 27 = .ok (.iload_n 3, 1) := by decide +kernel
theorem dX11_share_28 : decode cX11_share 28 = .ok (.bipush 16, 2) := by decide +kernel
theorem dX11_share_30 : decode cX11_share 30 = .ok (.if_icmp .ge 198, 3) := by decide +kernel
theorem dX11_share_33 : decode cX11_share 33 = .ok (.aload_n 0, 1) := by decide +kernel
theorem dX11_share_34 : decode cX11_share 34 = .ok (.iload_n 1, 1) := by decide +kernel
theorem dX11_share_35 : decode cX11_share 35 = .ok (.iload_n 3, 1) := by decide +kernel
theorem dX11_share_36 : decode cX11_share 36 = .ok (.invokevirtual 143, 3) := by decide +kernel
theorem dX11_share_39 : decode cX11_share 39 = .ok (.istore 4, 2) := by decide +kernel
theorem dX11_share_41 : decode cX11_share 41 = .ok (.iload_n 3, 1) := by decide +kernel
theorem dX11_share_42 : decode cX11_share 42 = .ok (.iconst 1, 1) := by decide +kernel
theorem dX11_share_43 : decode cX11_share 43 = .ok (.iadd, 1) := by decide +kernel
theorem dX11_share_44 : decode cX11_share 44 = .ok (.istore 5, 2) := by decide +kernel
theorem dX11_share_46 : decode cX11_share 46 = .ok (.iload 5, 2) := by decide +kernel
theorem dX11_share_48 : decode cX11_share 48 = .ok (.bipush 16, 2) := by decide +kernel
theorem dX11_share_50 : decode cX11_share 50 = .ok (.if_icmp .ge 172, 3) := by decide +kernel
theorem dX11_share_53 : decode cX11_share 53 = .ok (.aload_n 0, 1) := by decide +kernel
theorem dX11_share_54 : decode cX11_share 54 = .ok (.iload 4, 2) := by decide +kernel
theorem dX11_share_56 : decode cX11_share 56 = .ok (.invokevirtual 211, 3) := by decide +kernel
theorem dX11_share_59 : decode cX11_share 59 = .ok (.ifCond .eq 163, 3) := by decide +kernel
theorem dX11_share_62 : decode cX11_share 62 = .ok (.aload_n 0, 1) := by decide +kernel
theorem dX11_share_63 : decode cX11_share 63 = .ok (.iload_n 1, 1) := by decide +kernel
theorem dX11_share_64 : decode cX11_share 64 = .ok (.iload 5, 2) := by decide +kernel
theorem dX11_share_66 : decode cX11_share 66 = .ok (.invokevirtual 143, 3) := by decide +kernel
theorem dX11_share_69 : decode cX11_share 69 = .ok (.istore 6, 2) := by decide +kernel
theorem dX11_share_71 : decode cX11_share 71 = .ok (.aload_n 0, 1) := by decide +kernel
theorem dX11_share_72 : decode cX11_share 72 = .ok (.iload 6, 2) := by decide +kernel
theorem dX11_share_74 : decode cX11_share 74 = .ok (.invokevirtual 211, 3) := by decide +kernel
theorem dX11_share_77 : decode cX11_share 77 = .ok (.ifCond .eq 139, 3) := by decide +kernel
theorem dX11_share_80 : decode cX11_share 80 = .ok (.aload_n 0, 1) := by decide +kernel
theorem dX11_share_81 : decode cX11_share 81 = .ok (.iload 4, 2) := by decide +kernel
theorem dX11_share_83 : decode cX11_share 83 = .ok (.iload 6, 2) := by decide +kernel
theorem dX11_share_85 : decode cX11_share 85 = .ok (.invokevirtual 214, 3) := by decide +kernel
theorem dX11_share_88 : decode cX11_share 88 = .ok (.ifCond .eq 128, 3) := by decide +kernel
theorem dX11_share_91 : decode cX11_share 91 = .ok (.iconst 0, 1) := by decide +kernel
theorem dX11_share_92 : decode cX11_share 92 = .ok (.istore 7, 2) := by decide +kernel
theorem dX11_share_94 : decode cX11_share 94 = .ok (.iload 7, 2) := by decide +kernel
theorem dX11_share_96 : decode cX11_share 96 = .ok (.bipush 8, 2) := by decide +kernel
theorem dX11_share_98 : decode cX11_share 98 = .ok (.aload_n 0, 1) := by decide +kernel
theorem dX11_share_99 : decode cX11_share 99 = .ok (.getfield 129, 3) := by decide +kernel
theorem dX11_share_102 : decode cX11_share 102 = .ok (.imul, 1) := by decide +kernel
theorem dX11_share_103 : decode cX11_share 103 = .ok (.if_icmp .ge 53, 3) := by decide +kernel
theorem dX11_share_106 : decode cX11_share 106 = .ok (.aload_n 0, 1) := by decide +kernel
theorem dX11_share_107 : decode cX11_share 107 = .ok (.getfield 86, 3) := by decide +kernel
theorem dX11_share_110 : decode cX11_share 110 = .ok (.iload 7, 2) := by decide +kernel
theorem dX11_share_112 : decode cX11_share 112 = .ok (.aload_n 0, 1) := by decide +kernel
theorem dX11_share_113 : decode cX11_share 113 = .ok (.getfield 49, 3) := by decide +kernel
theorem dX11_share_116 : decode cX11_share 116 = .ok (.iload 7, 2) := by decide +kernel
theorem dX11_share_118 : decode cX11_share 118 = .ok (.bipush 8, 2) := by decide +kernel
theorem dX11_share_120 : decode cX11_share 120 = .ok (.idiv, 1) := by decide +kernel
theorem dX11_share_121 : decode cX11_share 121 = .ok (.iaload, 1) := by decide +kernel
theorem dX11_share_122 : decode cX11_share 122 = .ok (.iload_n 1, 1) := by decide +kernel
theorem dX11_share_123 : decode cX11_share 123 = .ok (.if_icmp .ne 19, 3) := by decide +kernel
theorem dX11_share_126 : decode cX11_share 126 = .ok (.aload_n 0, 1) := by decide +kernel
theorem dX11_share_127 : decode cX11_share 127 = .ok (.getfield 86, 3) := by decide +kernel
theorem dX11_share_130 : decode cX11_share 130 = .ok (.iload 7, 2) := by decide +kernel
theorem dX11_share_132 : decode cX11_share 132 = .ok (.iaload, 1) := by decide +kernel
theorem dX11_share_133 : decode cX11_share 133 = .ok (.iload 5, 2) := by decide +kernel
theorem dX11_share_135 : decode cX11_share 135 = .ok (.if_icmp .ne 7, 3) := by decide +kernel
theorem dX11_share_138 : decode cX11_share 138 = .ok (.iload_n 3, 1) := by decide +kernel
theorem dX11_share_139 : decode cX11_share 139 = .ok (.goto 10, 3) := by decide +kernel
theorem dX11_share_142 : decode cX11_share 142 = .ok (.aload_n 0, 1) := by decide +kernel
theorem dX11_share_143 : decode cX11_share 143 = .ok (.getfield 86, 3) := by decide +kernel
theorem dX11_share_146 : decode cX11_share 146 = .ok (.iload 7, 2) := by decide +kernel
theorem dX11_share_148 : decode cX11_share 148 = .ok (.iaload, 1) := by decide +kernel
theorem dX11_share_149 : decode cX11_share 149 = .ok (.iastore, 1) := by decide +kernel
theorem dX11_share_150 : decode cX11_share 150 = .ok (.iinc 7 1, 3) := by decide +kernel
theorem dX11_share_153 : decode cX11_share 153 = .ok (.goto (-59), 3) := by decide +kernel
theorem dX11_share_156 : decode cX11_share 156 = .ok (.aload_n 0, 1) := by decide +kernel
theorem dX11_share_157 : decode cX11_share 157 = .ok (.getfield 89, 3) := by decide +kernel
theorem dX11_share_160 : decode cX11_share 160 = .ok (.bipush 16, 2) := by decide +kernel
theorem dX11_share_162 : decode cX11_share 162 = .ok (.iload_n 1, 1) := by decide +kernel
theorem dX11_share_163 : decode cX11_share 163 = .ok (.imul, 1) := by decide +kernel
theorem dX11_share_164 : decode cX11_share 164 = .ok (.iload 5, 2) := by decide +kernel
theorem dX11_share_166 : decode cX11_share 166 = .ok (.iadd, 1) := by decide +kernel
theorem dX11_share_167 : decode cX11_share 167 = .ok (.iaload, 1) := by decide +kernel
theorem dX11_share_168 : decode cX11_share 168 = .ok (.istore 7, 2) := by decide +kernel
theorem dX11_share_170 : decode cX11_share 170 = .ok (.aload_n 0, 1) := by decide +kernel
theorem dX11_share_171 : decode cX11_share 171 = .ok (.getfield 89, 3) := by decide +kernel
theorem dX11_share_174 : decode cX11_share 174 = .ok (.bipush 16, 2) := by decide +kernel
theorem dX11_share_176 : decode cX11_share 176 = .ok (.iload_n 1, 1) := by decide +kernel
theorem dX11_share_177 : decode cX11_share 177 = .ok (.imul, 1) := by decide +kernel
theorem dX11_share_178 : decode cX11_share 178 = .ok (.iload_n 3, 1) := by decide +kernel
theorem dX11_share_179 : decode cX11_share 179 = .ok (.iadd, 1) := by decide +kernel
theorem dX11_share_180 : decode cX11_share 180 = .ok (.iload 7, 2) := by decide +kernel
theorem dX11_share_182 : decode cX11_share 182 = .ok (.aload_n 0, 1) := by decide +kernel
theorem dX11_share_183 : decode cX11_share 183 = .ok (.getfield 89, 3) := by decide +kernel
theorem dX11_share_186 : decode cX11_share 186 = .ok (.bipush 16, 2) := by decide +kernel
theorem dX11_share_188 : decode cX11_share 188 = .ok (.iload_n 1, 1) := by decide +kernel
theorem dX11_share_189 : decode cX11_share 189 = .ok (.imul, 1) := by decide +kernel
theorem dX11_share_190 : decode cX11_share 190 = .ok (.iload_n 3, 1) := by decide +kernel
theorem dX11_share_191 : decode cX11_share 191 = .ok (.iadd, 1) := by decide +kernel
theorem dX11_share_192 : decode cX11_share 192 = .ok (.iaload, 1) := by decide +kernel
theorem dX11_share_193 : decode cX11_share 193 = .ok (.if_icmp .le 8, 3) := by decide +kernel
theorem dX11_share_196 : decode cX11_share 196 = .ok (.iload 7, 2) := by decide +kernel
theorem dX11_share_198 : decode cX11_share 198 = .ok (.goto 14, 3) := by decide +kernel
theorem dX11_share_201 : decode cX11_share 201 = .ok (.aload_n 0, 1) := by decide +kernel
theorem dX11_share_202 : decode cX11_share 202 = .ok (.getfield 89, 3) := by decide +kernel
theorem dX11_share_205 : decode cX11_share 205 = .ok (.bipush 16, 2) := by decide +kernel
theorem dX11_share_207 : decode cX11_share 207 = .ok (.iload_n 1, 1) := by decide +kernel
theorem dX11_share_208 : decode cX11_share 208 = .ok (.imul, 1) := by decide +kernel
theorem dX11_share_209 : decode cX11_share 209 = .ok (.iload_n 3, 1) := by decide +kernel
theorem dX11_share_210 : decode cX11_share 210 = .ok (.iadd, 1) := by decide +kernel
theorem dX11_share_211 : decode cX11_share 211 = .ok (.iaload, 1) := by decide +kernel
theorem dX11_share_212 : decode cX11_share 212 = .ok (.iastore, 1) := by decide +kernel
theorem dX11_share_213 : decode cX11_share 213 = .ok (.iinc 2 1, 3) := by decide +kernel
theorem dX11_share_216 : decode cX11_share 216 = .ok (.iinc 5 1, 3) := by decide +kernel
theorem dX11_share_219 : decode cX11_share 219 = .ok (.goto (-173), 3) := by decide +kernel
theorem dX11_share_222 : decode cX11_share 222 = .ok (.iinc 3 1, 3) := by decide +kernel
theorem dX11_share_225 : decode cX11_share 225 = .ok (.goto (-198), 3) := by decide +kernel
theorem dX11_share_228 : decode cX11_share 228 = .ok (.iload_n 2, 1) := by decide +kernel
theorem dX11_share_229 : decode cX11_share 229 = .ok (.ireturn, 1) := by decide +kernel
theorem dX11_bits_0 : decode cX11_bits 0 = .ok (.iconst 0, 1) := by decide +kernel
theorem dX11_bits_1 : decode cX11_bits 1 = .ok (.istore_n 1, 1) := by decide +kernel
theorem dX11_bits_2 : decode cX11_bits 2 = .ok (.iconst 0, 1) := by decide +kernel
theorem dX11_bits_3 : decode cX11_bits 3 = .ok (.istore_n 2, 1) := by decide +kernel
theorem dX11_bits_4 : decode cX11_bits 4 = .ok (.iload_n 2, 1) := by decide +kernel
theorem dX11_bits_5 : decode cX11_bits 5 = .ok (.bipush 8, 2) := by decide +kernel
theorem dX11_bits_7 : decode cX11_bits 7 = .ok (.if_icmp .ge 17, 3) := by decide +kernel
theorem dX11_bits_10 : decode cX11_bits 10 = .ok (.iload_n 1, 1) := by decide +kernel
theorem dX11_bits_11 : decode cX11_bits 11 = .ok (.iload_n 0, 1) := by decide +kernel
theorem dX11_bits_12 : decode cX11_bits 12 = .ok (.iload_n 2, 1) := by decide +kernel
theorem dX11_bits_13 : decode cX11_bits 13 = .ok (.ishr, 1) := by decide +kernel
theorem dX11_bits_14 : decode cX11_bits 14 = .ok (.iconst 1, 1) := by decide +kernel
theorem dX11_bits_15 : decode cX11_bits 15 = .ok (.iand, 1) := by decide +kernel
theorem dX11_bits_16 : decode cX11_bits 16 = .ok (.iadd, 1) := by decide +kernel
theorem dX11_bits_17 : decode cX11_bits 17 = .ok (.istore_n 1, 1) := by decide +kernel
theorem dX11_bits_18 : decode cX11_bits 18 = .ok (.iinc 2 1, 3) := by decide +kernel
theorem dX11_bits_21 : decode cX11_bits 21 = .ok (.goto (-17), 3) := by decide +kernel
theorem dX11_bits_24 : decode cX11_bits 24 = .ok (.iload_n 1, 1) := by decide +kernel
theorem dX11_bits_25 : decode cX11_bits 25 = .ok (.ireturn, 1) := by decide +kernel
theorem dX11_move_0 : decode cX11_move 0 = .ok (.aload_n 0, 1) := by decide +kernel
theorem dX11_move_1 : decode cX11_move 1 = .ok (.iload_n 1, 1) := by decide +kernel
theorem dX11_move_2 : decode cX11_move 2 = .ok (.invokevirtual 202, 3) := by decide +kernel
theorem dX11_move_5 : decode cX11_move 5 = .ok (.istore_n 2, 1) := by decide +kernel
theorem dX11_move_6 : decode cX11_move 6 = .ok (.iload_n 2, 1) := by decide +kernel
theorem dX11_move_7 : decode cX11_move 7 = .ok (.ifCond .eq 48, 3) := by decide +kernel
theorem dX11_move_10 : decode cX11_move 10 = .ok (.aload_n 0, 1) := by decide +kernel
theorem dX11_move_11 : decode cX11_move 11 = .ok (.getfield 92, 3) := by decide +kernel
theorem dX11_move_14 : decode cX11_move 14 = .ok (.iload_n 1, 1) := by decide +kernel
theorem dX11_move_15 : decode cX11_move 15 = .ok (.baload, 1) := by decide +kernel
theorem dX11_move_16 : decode cX11_move 16 = .ok (.ifCond .ne 39, 3) := by decide +kernel
theorem dX11_move_19 : decode cX11_move 19 = .ok (.aload_n 0, 1) := by decide +kernel
theorem dX11_move_20 : decode cX11_move 20 = .ok (.getfield 7, 3) := by decide +kernel
theorem dX11_move_23 : decode cX11_move 23 = .ok (.bipush 55, 2) := by decide +kernel
theorem dX11_move_25 : decode cX11_move 25 = .ok (.iload_n 1, 1) := by decide +kernel
theorem dX11_move_26 : decode cX11_move 26 = .ok (.imul, 1) := by decide +kernel
theorem dX11_move_27 : decode cX11_move 27 = .ok (.bipush 49, 2) := by decide +kernel
theorem dX11_move_29 : decode cX11_move 29 = .ok (.iadd, 1) := by decide +kernel
theorem dX11_move_30 : decode cX11_move 30 = .ok (.iaload, 1) := by decide +kernel
theorem dX11_move_31 : decode cX11_move 31 = .ok (.iconst 3, 1) := by decide +kernel
theorem dX11_move_32 : decode cX11_move 32 = .ok (.if_icmp .eq 23, 3) := by decide +kernel
theorem dX11_move_35 : decode cX11_move 35 = .ok (.aload_n 0, 1) := by decide +kernel
theorem dX11_move_36 : decode cX11_move 36 = .ok (.getfield 116, 3) := by decide +kernel
theorem dX11_move_39 : decode cX11_move 39 = .ok (.iconst 1, 1) := by decide +kernel
theorem dX11_move_40 : decode cX11_move 40 = .ok (.aload_n 0, 1) := by decide +kernel
theorem dX11_move_41 : decode cX11_move 41 = .ok (.getfield 49, 3) := by decide +kernel
theorem dX11_move_44 : decode cX11_move 44 = .ok (.iload_n 1, 1) := by decide +kernel
theorem dX11_move_45 : decode cX11_move 45 = .ok (.iaload, 1) := by decide +kernel
theorem dX11_move_46 : decode cX11_move 46 = .ok (.isub, 1) := by decide +kernel
theorem dX11_move_47 : decode cX11_move 47 = .ok (.baload, 1) := by decide +kernel
theorem dX11_move_48 : decode cX11_move 48 = .ok (.ifCond .ne 7, 3) := by decide +kernel
theorem dX11_move_51 : decode cX11_move 51 = .ok (.iconst 1, 1) := by decide +kernel
theorem dX11_move_52 : decode cX11_move 52 = .ok (.goto 4, 3) := by decide +kernel
theorem dX11_move_55 : decode cX11_move 55 = .ok (.iconst 0, 1) := by decide +kernel
theorem dX11_move_56 : decode cX11_move 56 = .ok (.istore_n 3, 1) := by decide +kernel
theorem dX11_move_57 : decode cX11_move 57 = .ok (.aload_n 0, 1) := by decide +kernel
theorem dX11_move_58 : decode cX11_move 58 = .ok (.iload_n 2, 1) := by decide +kernel
theorem dX11_move_59 : decode cX11_move 59 = .ok (.ifCond .ne 7, 3) := by decide +kernel
theorem dX11_move_62 : decode cX11_move 62 = .ok (.iconst 1, 1) := by decide +kernel
theorem dX11_move_63 : decode cX11_move 63 = .ok (.goto 12, 3) := by decide +kernel
theorem dX11_move_66 : decode cX11_move 66 = .ok (.iload_n 3, 1) := by decide +kernel
theorem dX11_move_67 : decode cX11_move 67 = .ok (.ifCond .eq 7, 3) := by decide +kernel
theorem dX11_move_70 : decode cX11_move 70 = .ok (.iconst 0, 1) := by decide +kernel
theorem dX11_move_71 : decode cX11_move 71 = .ok (.goto 4, 3) := by decide +kernel
theorem dX11_move_74 : decode cX11_move 74 = .ok (.iconst 2, 1) := by decide +kernel
theorem dX11_move_75 : decode cX11_move 75 = .ok (.invokevirtual 192, 3) := by decide +kernel
theorem dX11_move_78 : decode cX11_move 78 = .ok (.ifCond .eq 5, 3) := by decide +kernel
theorem dX11_move_81 : decode cX11_move 81 = .ok (.iconst 0, 1) := by decide +kernel
theorem dX11_move_82 : decode cX11_move 82 = .ok (.ireturn, 1) := by decide +kernel
theorem dX11_move_83 : decode cX11_move 83 = .ok (.aload_n 0, 1) := by decide +kernel
theorem dX11_move_84 : decode cX11_move 84 = .ok (.getfield 92, 3) := by decide +kernel
theorem dX11_move_87 : decode cX11_move 87 = .ok (.iload_n 1, 1) := by decide +kernel
theorem dX11_move_88 : decode cX11_move 88 = .ok (.iconst 1, 1) := by decide +kernel
theorem dX11_move_89 : decode cX11_move 89 = .ok (.bastore, 1) := by decide +kernel
theorem dX11_move_90 : decode cX11_move 90 = .ok (.aload_n 0, 1) := by decide +kernel
theorem dX11_move_91 : decode cX11_move 91 = .ok (.getfield 95, 3) := by decide +kernel
theorem dX11_move_94 : decode cX11_move 94 = .ok (.iload_n 1, 1) := by decide +kernel
theorem dX11_move_95 : decode cX11_move 95 = .ok (.iconst 0, 1) := by decide +kernel
theorem dX11_move_96 : decode cX11_move 96 = .ok (.iastore, 1) := by decide +kernel
theorem dX11_move_97 : decode cX11_move 97 = .ok (.iconst 0, 1) := by decide +kernel
theorem dX11_move_98 : decode cX11_move 98 = .ok (.istore 4, 2) := by decide +kernel
theorem dX11_move_100 : decode cX11_move 100 = .ok (.iload 4, 2) := by decide +kernel
theorem dX11_move_102 : decode cX11_move 102 = .ok (.bipush 8, 2) := by decide +kernel
theorem dX11_move_104 : decode cX11_move 104 = .ok (.if_icmp .ge 41, 3) := by decide +kernel
theorem dX11_move_107 : decode cX11_move 107 = .ok (.aload_n 0, 1) := by decide +kernel
theorem dX11_move_108 : decode cX11_move 108 = .ok (.getfield 95, 3) := by decide +kernel
theorem dX11_move_111 : decode cX11_move 111 = .ok (.iload_n 1, 1) := by decide +kernel
theorem dX11_move_112 : decode cX11_move 112 = .ok (.dup2, 1) := by decide +kernel
theorem dX11_move_113 : decode cX11_move 113 = .ok (.iaload, 1) := by decide +kernel
theorem dX11_move_114 : decode cX11_move 114 = .ok (.aload_n 0, 1) := by decide +kernel
theorem dX11_move_115 : decode cX11_move 115 = .ok (.getfield 83, 3) := by decide +kernel
theorem dX11_move_118 : decode cX11_move 118 = .ok (.bipush 8, 2) := by decide +kernel
theorem dX11_move_120 : decode cX11_move 120 = .ok (.iload_n 1, 1) := by decide +kernel
theorem dX11_move_121 : decode cX11_move 121 = .ok (.imul, 1) := by decide +kernel
theorem dX11_move_122 : decode cX11_move 122 = .ok (.iload 4, 2) := by decide +kernel
theorem dX11_move_124 : decode cX11_move 124 = .ok (.iadd, 1) := by decide +kernel
theorem dX11_move_125 : decode cX11_move 125 = .ok (.iaload, 1) := by decide +kernel
theorem dX11_move_126 : decode cX11_move 126 = .ok (.ifCond .eq 10, 3) := by decide +kernel
theorem dX11_move_129 : decode cX11_move 129 = .ok (.iconst 1, 1) := by decide +kernel
theorem dX11_move_130 : decode cX11_move 130 = .ok (.iload 4, 2) := by decide +kernel
theorem dX11_move_132 : decode cX11_move 132 = .ok (.ishl, 1) := by decide +kernel
theorem dX11_move_133 : decode cX11_move 133 = .ok (.goto 4, 3) := by decide +kernel
theorem dX11_move_136 : decode cX11_move 136 = .ok (.iconst 0, 1) := by decide +kernel
theorem dX11_move_137 : decode cX11_move 137 = .ok (.ior, 1) := by decide +kernel
theorem dX11_move_138 : decode cX11_move 138 = .ok (.iastore, 1) := by decide +kernel
theorem dX11_move_139 : decode cX11_move 139 = .ok (.iinc 4 1, 3) := by decide +kernel
theorem dX11_move_142 : decode cX11_move 142 = .ok (.goto (-42), 3) := by decide +kernel
theorem dX11_move_145 : decode cX11_move 145 = .ok (.aload_n 0, 1) := by decide +kernel
theorem dX11_move_146 : decode cX11_move 146 = .ok (.getfield 95, 3) := by decide +kernel
theorem dX11_move_149 : decode cX11_move 149 = .ok (.iload_n 1, 1) := by decide +kernel
theorem dX11_move_150 : decode cX11_move 150 = .ok (.iaload, 1) := by decide +kernel
theorem dX11_move_151 : decode cX11_move 151 = .ok (.invokestatic 217, 3) := by decide +kernel
theorem dX11_move_154 : decode cX11_move 154 = .ok (.ireturn, 1) := by decide +kernel
theorem dX11_round_0 : decode cX11_round 0 = .ok (.aload_n 0, 1) := by decide +kernel
theorem dX11_round_1 : decode cX11_round 1 = .ok (.aload_n 0, 1) := by decide +kernel
theorem dX11_round_2 : decode cX11_round 2 = .ok (.iload_n 1, 1) := by decide +kernel
theorem dX11_round_3 : decode cX11_round 3 = .ok (.invokevirtual 202, 3) := by decide +kernel
theorem dX11_round_6 : decode cX11_round 6 = .ok (.ifCond .ne 7, 3) := by decide +kernel
theorem dX11_round_9 : decode cX11_round 9 = .ok (.iconst 1, 1) := by decide +kernel
theorem dX11_round_10 : decode cX11_round 10 = .ok (.goto 31, 3) := by decide +kernel
theorem dX11_round_13 : decode cX11_round 13 = .ok (.iload_n 2, 1) := by decide +kernel
theorem dX11_round_14 : decode cX11_round 14 = .ok (.iconst 1, 1) := by decide +kernel
theorem dX11_round_15 : decode cX11_round 15 = .ok (.bipush 8, 2) := by decide +kernel
theorem dX11_round_17 : decode cX11_round 17 = .ok (.invokestatic 132, 3) := by decide +kernel
theorem dX11_round_20 : decode cX11_round 20 = .ok (.ifCond .ne 7, 3) := by decide +kernel
theorem dX11_round_23 : decode cX11_round 23 = .ok (.iconst 2, 1) := by decide +kernel
theorem dX11_round_24 : decode cX11_round 24 = .ok (.goto 17, 3) := by decide +kernel
theorem dX11_round_27 : decode cX11_round 27 = .ok (.aload_n 0, 1) := by decide +kernel
theorem dX11_round_28 : decode cX11_round 28 = .ok (.getfield 92, 3) := by decide +kernel
theorem dX11_round_31 : decode cX11_round 31 = .ok (.iload_n 1, 1) := by decide +kernel
theorem dX11_round_32 : decode cX11_round 32 = .ok (.baload, 1) := by decide +kernel
theorem dX11_round_33 : decode cX11_round 33 = .ok (.ifCond .ne 7, 3) := by decide +kernel
theorem dX11_round_36 : decode cX11_round 36 = .ok (.iconst 3, 1) := by decide +kernel
theorem dX11_round_37 : decode cX11_round 37 = .ok (.goto 4, 3) := by decide +kernel
theorem dX11_round_40 : decode cX11_round 40 = .ok (.iconst 0, 1) := by decide +kernel
theorem dX11_round_41 : decode cX11_round 41 = .ok (.invokevirtual 192, 3) := by decide +kernel
theorem dX11_round_44 : decode cX11_round 44 = .ok (.ifCond .eq 5, 3) := by decide +kernel
theorem dX11_round_47 : decode cX11_round 47 = .ok (.iconst 0, 1) := by decide +kernel
theorem dX11_round_48 : decode cX11_round 48 = .ok (.ireturn, 1) := by decide +kernel
theorem dX11_round_49 : decode cX11_round 49 = .ok (.iload_n 2, 1) := by decide +kernel
theorem dX11_round_50 : decode cX11_round 50 = .ok (.istore_n 3, 1) := by decide +kernel
theorem dX11_round_51 : decode cX11_round 51 = .ok (.iconst 0, 1) := by decide +kernel
theorem dX11_round_52 : decode cX11_round 52 = .ok (.istore 4, 2) := by decide +kernel
theorem dX11_round_54 : decode cX11_round 54 = .ok (.iload 4, 2) := by decide +kernel
theorem dX11_round_56 : decode cX11_round 56 = .ok (.bipush 8, 2) := by decide +kernel
theorem dX11_round_58 : decode cX11_round 58 = .ok (.if_icmp .ge 54, 3) := by decide +kernel
theorem dX11_round_61 : decode cX11_round 61 = .ok (.iload_n 3, 1) := by decide +kernel
theorem dX11_round_62 : decode cX11_round 62 = .ok (.ifCond .le 50, 3) := by decide +kernel
theorem dX11_round_65 : decode cX11_round 65 = .ok (.aload_n 0, 1) := by decide +kernel
theorem dX11_round_66 : decode cX11_round 66 = .ok (.getfield 95, 3) := by decide +kernel
theorem dX11_round_69 : decode cX11_round 69 = .ok (.iload_n 1, 1) := by decide +kernel
theorem dX11_round_70 : decode cX11_round 70 = .ok (.iaload, 1) := by decide +kernel
theorem dX11_round_71 : decode cX11_round 71 = .ok (.iload 4, 2) := by decide +kernel
theorem dX11_round_73 : decode cX11_round 73 = .ok (.ishr, 1) := by decide +kernel
theorem dX11_round_74 : decode cX11_round 74 = .ok (.iconst 1, 1) := by decide +kernel
theorem dX11_round_75 : decode cX11_round 75 = .ok (.iand, 1) := by decide +kernel
theorem dX11_round_76 : decode cX11_round 76 = .ok (.iconst 1, 1) := by decide +kernel
theorem dX11_round_77 : decode cX11_round 77 = .ok (.if_icmp .ne 29, 3) := by decide +kernel
theorem dX11_round_80 : decode cX11_round 80 = .ok (.aload_n 0, 1) := by decide +kernel
theorem dX11_round_81 : decode cX11_round 81 = .ok (.getfield 95, 3) := by decide +kernel
theorem dX11_round_84 : decode cX11_round 84 = .ok (.iload_n 1, 1) := by decide +kernel
theorem dX11_round_85 : decode cX11_round 85 = .ok (.dup2, 1) := by decide +kernel
theorem dX11_round_86 : decode cX11_round 86 = .ok (.iaload, 1) := by decide +kernel
theorem dX11_round_87 : decode cX11_round 87 = .ok (.iconst 1, 1) := by decide +kernel
theorem dX11_round_88 : decode cX11_round 88 = .ok (.iload 4, 2) := by decide +kernel
theorem dX11_round_90 : decode cX11_round 90 = .ok (.ishl, 1) := by decide +kernel
theorem dX11_round_91 : decode cX11_round 91 = .ok (.ixor, 1) := by decide +kernel
theorem dX11_round_92 : decode cX11_round 92 = .ok (.iastore, 1) := by decide +kernel
theorem dX11_round_93 : decode cX11_round 93 = .ok (.aload_n 0, 1) := by decide +kernel
theorem dX11_round_94 : decode cX11_round 94 = .ok (.getfield 98, 3) := by decide +kernel
theorem dX11_round_97 : decode cX11_round 97 = .ok (.iload_n 1, 1) := by decide +kernel
theorem dX11_round_98 : decode cX11_round 98 = .ok (.dup2, 1) := by decide +kernel
theorem dX11_round_99 : decode cX11_round 99 = .ok (.iaload, 1) := by decide +kernel
theorem dX11_round_100 : decode cX11_round 100 = .ok (.iconst 1, 1) := by decide +kernel
theorem dX11_round_101 : decode cX11_round 101 = .ok (.iadd, 1) := by decide +kernel
theorem dX11_round_102 : decode cX11_round 102 = .ok (.iastore, 1) := by decide +kernel
theorem dX11_round_103 : decode cX11_round 103 = .ok (.iinc 3 (-1), 3) := by decide +kernel
theorem dX11_round_106 : decode cX11_round 106 = .ok (.iinc 4 1, 3) := by decide +kernel
theorem dX11_round_109 : decode cX11_round 109 = .ok (.goto (-55), 3) := by decide +kernel
theorem dX11_round_112 : decode cX11_round 112 = .ok (.aload_n 0, 1) := by decide +kernel
theorem dX11_round_113 : decode cX11_round 113 = .ok (.getfield 95, 3) := by decide +kernel
theorem dX11_round_116 : decode cX11_round 116 = .ok (.iload_n 1, 1) := by decide +kernel
theorem dX11_round_117 : decode cX11_round 117 = .ok (.iaload, 1) := by decide +kernel
theorem dX11_round_118 : decode cX11_round 118 = .ok (.invokestatic 217, 3) := by decide +kernel
theorem dX11_round_121 : decode cX11_round 121 = .ok (.ireturn, 1) := by decide +kernel
theorem dX11_swapAll_0 : decode cX11_swapAll 0 = .ok (.bipush 8, 2) := by decide +kernel
theorem dX11_swapAll_2 : decode cX11_swapAll 2 = .ok (.iload_n 1, 1) := by decide +kernel
theorem dX11_swapAll_3 : decode cX11_swapAll 3 = .ok (.imul, 1) := by decide +kernel
theorem dX11_swapAll_4 : decode cX11_swapAll 4 = .ok (.istore_n 2, 1) := by decide +kernel
theorem dX11_swapAll_5 : decode cX11_swapAll 5 = .ok (.iload_n 2, 1) := by decide +kernel
theorem dX11_swapAll_6 : decode cX11_swapAll 6 = .ok (.bipush 8, 2) := by decide +kernel
theorem dX11_swapAll_8 : decode cX11_swapAll 8 = .ok (.iload_n 1, 1) := by decide +kernel
theorem dX11_swapAll_9 : decode cX11_swapAll 9 = .ok (.imul, 1) := by decide +kernel
theorem dX11_swapAll_10 : decode cX11_swapAll 10 = .ok (.bipush 8, 2) := by decide +kernel
theorem dX11_swapAll_12 : decode cX11_swapAll 12 = .ok (.iadd, 1) := by decide +kernel
theorem dX11_swapAll_13 : decode cX11_swapAll 13 = .ok (.if_icmp .ge 42, 3) := by decide +kernel
theorem dX11_swapAll_16 : decode cX11_swapAll 16 = .ok (.aload_n 0, 1) := by decide +kernel
theorem dX11_swapAll_17 : decode cX11_swapAll 17 = .ok (.getfield 83, 3) := by decide +kernel
theorem dX11_swapAll_20 : decode cX11_swapAll 20 = .ok (.iload_n 2, 1) := by decide +kernel
theorem dX11_swapAll_21 : decode cX11_swapAll 21 = .ok (.aload_n 0, 1) := by decide +kernel
theorem dX11_swapAll_22 : decode cX11_swapAll 22 = .ok (.getfield 83, 3) := by decide +kernel
theorem dX11_swapAll_25 : decode cX11_swapAll 25 = .ok (.iload_n 2, 1) := by decide +kernel
theorem dX11_swapAll_26 : decode cX11_swapAll 26 = .ok (.iaload, 1) := by decide +kernel
theorem dX11_swapAll_27 : decode cX11_swapAll 27 = .ok (.iconst 1, 1) := by decide +kernel
theorem dX11_swapAll_28 : decode cX11_swapAll 28 = .ok (.if_icmp .ne 7, 3) := by decide +kernel
theorem dX11_swapAll_31 : decode cX11_swapAll 31 = .ok (.iconst 2, 1) := by decide +kernel
theorem dX11_swapAll_32 : decode cX11_swapAll 32 = .ok (.goto 9, 3) := by decide +kernel
theorem dX11_swapAll_35 : decode cX11_swapAll 35 = .ok (.aload_n 0, 1) := by decide +kernel
theorem dX11_swapAll_36 : decode cX11_swapAll 36 = .ok (.getfield 83, 3) := by decide +kernel
theorem dX11_swapAll_39 : decode cX11_swapAll 39 = .ok (.iload_n 2, 1) := by decide +kernel
theorem dX11_swapAll_40 : decode cX11_swapAll 40 = .ok (.iaload, 1) := by decide +kernel
theorem dX11_swapAll_41 : decode cX11_swapAll 41 = .ok (.iastore, 1) := by decide +kernel
theorem dX11_swapAll_42 : decode cX11_swapAll 42 = .ok (.aload_n 0, 1) := by decide +kernel
theorem dX11_swapAll_43 : decode cX11_swapAll 43 = .ok (.getfield 86, 3) := by decide +kernel
theorem dX11_swapAll_46 : decode cX11_swapAll 46 = .ok (.iload_n 2, 1) := by decide +kernel
theorem dX11_swapAll_47 : decode cX11_swapAll 47 = .ok (.iconst (-1), 1) := by decide +kernel
theorem dX11_swapAll_48 : decode cX11_swapAll 48 = .ok (.iastore, 1) := by decide +kernel
theorem dX11_swapAll_49 : decode cX11_swapAll 49 = .ok (.iinc 2 1, 3) := by decide +kernel
theorem dX11_swapAll_52 : decode cX11_swapAll 52 = .ok (.goto (-47), 3) := by decide +kernel
theorem dX11_swapAll_55 : decode cX11_swapAll 55 = .ok (.return_, 1) := by decide +kernel
theorem dX11_land_0 : decode cX11_land 0 = .ok (.aload_n 0, 1) := by decide +kernel
theorem dX11_land_1 : decode cX11_land 1 = .ok (.aload_n 0, 1) := by decide +kernel
theorem dX11_land_2 : decode cX11_land 2 = .ok (.iload_n 1, 1) := by decide +kernel
theorem dX11_land_3 : decode cX11_land 3 = .ok (.invokevirtual 202, 3) := by decide +kernel
theorem dX11_land_6 : decode cX11_land 6 = .ok (.ifCond .ne 7, 3) := by decide +kernel
theorem dX11_land_9 : decode cX11_land 9 = .ok (.iconst 1, 1) := by decide +kernel
theorem dX11_land_10 : decode cX11_land 10 = .ok (.goto 17, 3) := by decide +kernel
theorem dX11_land_13 : decode cX11_land 13 = .ok (.aload_n 0, 1) := by decide +kernel
theorem dX11_land_14 : decode cX11_land 14 = .ok (.getfield 92, 3) := by decide +kernel
theorem dX11_land_17 : decode cX11_land 17 = .ok (.iload_n 1, 1) := by decide +kernel
theorem dX11_land_18 : decode cX11_land 18 = .ok (.baload, 1) := by decide +kernel
theorem dX11_land_19 : decode cX11_land 19 = .ok (.ifCond .ne 7, 3) := by decide +kernel
theorem dX11_land_22 : decode cX11_land 22 = .ok (.iconst 2, 1) := by decide +kernel
theorem dX11_land_23 : decode cX11_land 23 = .ok (.goto 4, 3) := by decide +kernel
theorem dX11_land_26 : decode cX11_land 26 = .ok (.iconst 0, 1) := by decide +kernel
theorem dX11_land_27 : decode cX11_land 27 = .ok (.invokevirtual 192, 3) := by decide +kernel
theorem dX11_land_30 : decode cX11_land 30 = .ok (.ifCond .eq 5, 3) := by decide +kernel
theorem dX11_land_33 : decode cX11_land 33 = .ok (.iconst 0, 1) := by decide +kernel
theorem dX11_land_34 : decode cX11_land 34 = .ok (.ireturn, 1) := by decide +kernel
theorem dX11_land_35 : decode cX11_land 35 = .ok (.aload_n 0, 1) := by decide +kernel
theorem dX11_land_36 : decode cX11_land 36 = .ok (.getfield 92, 3) := by decide +kernel
theorem dX11_land_39 : decode cX11_land 39 = .ok (.iload_n 1, 1) := by decide +kernel
theorem dX11_land_40 : decode cX11_land 40 = .ok (.iconst 0, 1) := by decide +kernel
theorem dX11_land_41 : decode cX11_land 41 = .ok (.bastore, 1) := by decide +kernel
theorem dX11_land_42 : decode cX11_land 42 = .ok (.iload_n 2, 1) := by decide +kernel
theorem dX11_land_43 : decode cX11_land 43 = .ok (.ifCond .ne 5, 3) := by decide +kernel
theorem dX11_land_46 : decode cX11_land 46 = .ok (.iconst 0, 1) := by decide +kernel
theorem dX11_land_47 : decode cX11_land 47 = .ok (.ireturn, 1) := by decide +kernel
theorem dX11_land_48 : decode cX11_land 48 = .ok (.aload_n 0, 1) := by decide +kernel
theorem dX11_land_49 : decode cX11_land 49 = .ok (.getfield 95, 3) := by decide +kernel
theorem dX11_land_52 : decode cX11_land 52 = .ok (.iload_n 1, 1) := by decide +kernel
theorem dX11_land_53 : decode cX11_land 53 = .ok (.iaload, 1) := by decide +kernel
theorem dX11_land_54 : decode cX11_land 54 = .ok (.invokestatic 217, 3) := by decide +kernel
theorem dX11_land_57 : decode cX11_land 57 = .ok (.istore_n 3, 1) := by decide +kernel
theorem dX11_land_58 : decode cX11_land 58 = .ok (.aload_n 0, 1) := by decide +kernel
theorem dX11_land_59 : decode cX11_land 59 = .ok (.getfield 98, 3) := by decide +kernel
theorem dX11_land_62 : decode cX11_land 62 = .ok (.iload_n 1, 1) := by decide +kernel
theorem dX11_land_63 : decode cX11_land 63 = .ok (.dup2, 1) := by decide +kernel
theorem dX11_land_64 : decode cX11_land 64 = .ok (.iaload, 1) := by decide +kernel
theorem dX11_land_65 : decode cX11_land 65 = .ok (.iload_n 3, 1) := by decide +kernel
theorem dX11_land_66 : decode cX11_land 66 = .ok (.iadd, 1) := by decide +kernel
theorem dX11_land_67 : decode cX11_land 67 = .ok (.iastore, 1) := by decide +kernel
theorem dX11_land_68 : decode cX11_land 68 = .ok (.aload_n 0, 1) := by decide +kernel
theorem dX11_land_69 : decode cX11_land 69 = .ok (.iload_n 1, 1) := by decide +kernel
theorem dX11_land_70 : decode cX11_land 70 = .ok (.invokevirtual 220, 3) := by decide +kernel
theorem dX11_land_73 : decode cX11_land 73 = .ok (.aload_n 0, 1) := by decide +kernel
theorem dX11_land_74 : decode cX11_land 74 = .ok (.getfield 49, 3) := by decide +kernel
theorem dX11_land_77 : decode cX11_land 77 = .ok (.iload_n 1, 1) := by decide +kernel
theorem dX11_land_78 : decode cX11_land 78 = .ok (.iconst 1, 1) := by decide +kernel
theorem dX11_land_79 : decode cX11_land 79 = .ok (.aload_n 0, 1) := by decide +kernel
theorem dX11_land_80 : decode cX11_land 80 = .ok (.getfield 49, 3) := by decide +kernel
theorem dX11_land_83 : decode cX11_land 83 = .ok (.iload_n 1, 1) := by decide +kernel
theorem dX11_land_84 : decode cX11_land 84 = .ok (.iaload, 1) := by decide +kernel
theorem dX11_land_85 : decode cX11_land 85 = .ok (.isub, 1) := by decide +kernel
theorem dX11_land_86 : decode cX11_land 86 = .ok (.iastore, 1) := by decide +kernel
theorem dX11_land_87 : decode cX11_land 87 = .ok (.iload_n 3, 1) := by decide +kernel
theorem dX11_land_88 : decode cX11_land 88 = .ok (.ireturn, 1) := by decide +kernel
theorem dX11_keep_0 : decode cX11_keep 0 = .ok (.iconst 0, 1) := by decide +kernel
theorem dX11_keep_1 : decode cX11_keep 1 = .ok (.istore 6, 2) := by decide +kernel
theorem dX11_keep_3 : decode cX11_keep 3 = .ok (.iload 6, 2) := by decide +kernel
theorem dX11_keep_5 : decode cX11_keep 5 = .ok (.bipush 55, 2) := by decide +kernel
theorem dX11_keep_7 : decode cX11_keep 7 = .ok (.if_icmp .ge 27, 3) := by decide +kernel
theorem dX11_keep_10 : decode cX11_keep 10 = .ok (.aload_n 2, 1) := by decide +kernel
theorem dX11_keep_11 : decode cX11_keep 11 = .ok (.iload_n 3, 1) := by decide +kernel
theorem dX11_keep_12 : decode cX11_keep 12 = .ok (.iload 6, 2) := by decide +kernel
theorem dX11_keep_14 : decode cX11_keep 14 = .ok (.iadd, 1) := by decide +kernel
theorem dX11_keep_15 : decode cX11_keep 15 = .ok (.aload_n 0, 1) := by decide +kernel
theorem dX11_keep_16 : decode cX11_keep 16 = .ok (.getfield 7, 3) := by decide +kernel
theorem dX11_keep_19 : decode cX11_keep 19 = .ok (.bipush 55, 2) := by decide +kernel
theorem dX11_keep_21 : decode cX11_keep 21 = .ok (.iload_n 1, 1) := by decide +kernel
theorem dX11_keep_22 : decode cX11_keep 22 = .ok (.imul, 1) := by decide +kernel
theorem dX11_keep_23 : decode cX11_keep 23 = .ok (.iload 6, 2) := by decide +kernel
theorem dX11_keep_25 : decode cX11_keep 25 = .ok (.iadd, 1) := by decide +kernel
theorem dX11_keep_26 : decode cX11_keep 26 = .ok (.iaload, 1) := by decide +kernel
theorem dX11_keep_27 : decode cX11_keep 27 = .ok (.iastore, 1) := by decide +kernel
theorem dX11_keep_28 : decode cX11_keep 28 = .ok (.iinc 6 1, 3) := by decide +kernel
theorem dX11_keep_31 : decode cX11_keep 31 = .ok (.goto (-28), 3) := by decide +kernel
theorem dX11_keep_34 : decode cX11_keep 34 = .ok (.aload_n 2, 1) := by decide +kernel
theorem dX11_keep_35 : decode cX11_keep 35 = .ok (.iload_n 3, 1) := by decide +kernel
theorem dX11_keep_36 : decode cX11_keep 36 = .ok (.bipush 50, 2) := by decide +kernel
theorem dX11_keep_38 : decode cX11_keep 38 = .ok (.iadd, 1) := by decide +kernel
theorem dX11_keep_39 : decode cX11_keep 39 = .ok (.aload_n 0, 1) := by decide +kernel
theorem dX11_keep_40 : decode cX11_keep 40 = .ok (.getfield 7, 3) := by decide +kernel
theorem dX11_keep_43 : decode cX11_keep 43 = .ok (.bipush 55, 2) := by decide +kernel
theorem dX11_keep_45 : decode cX11_keep 45 = .ok (.iload_n 1, 1) := by decide +kernel
theorem dX11_keep_46 : decode cX11_keep 46 = .ok (.imul, 1) := by decide +kernel
theorem dX11_keep_47 : decode cX11_keep 47 = .ok (.bipush 50, 2) := by decide +kernel
theorem dX11_keep_49 : decode cX11_keep 49 = .ok (.iadd, 1) := by decide +kernel
theorem dX11_keep_50 : decode cX11_keep 50 = .ok (.iaload, 1) := by decide +kernel
theorem dX11_keep_51 : decode cX11_keep 51 = .ok (.iconst (-1), 1) := by decide +kernel
theorem dX11_keep_52 : decode cX11_keep 52 = .ok (.if_icmp .ne 7, 3) := by decide +kernel
theorem dX11_keep_55 : decode cX11_keep 55 = .ok (.iconst (-1), 1) := by decide +kernel
theorem dX11_keep_56 : decode cX11_keep 56 = .ok (.goto 20, 3) := by decide +kernel
theorem dX11_keep_59 : decode cX11_keep 59 = .ok (.aload_n 0, 1) := by decide +kernel
theorem dX11_keep_60 : decode cX11_keep 60 = .ok (.getfield 7, 3) := by decide +kernel
theorem dX11_keep_63 : decode cX11_keep 63 = .ok (.bipush 55, 2) := by decide +kernel
theorem dX11_keep_65 : decode cX11_keep 65 = .ok (.iload_n 1, 1) := by decide +kernel
theorem dX11_keep_66 : decode cX11_keep 66 = .ok (.imul, 1) := by decide +kernel
theorem dX11_keep_67 : decode cX11_keep 67 = .ok (.bipush 50, 2) := by decide +kernel
theorem dX11_keep_69 : decode cX11_keep 69 = .ok (.iadd, 1) := by decide +kernel
theorem dX11_keep_70 : decode cX11_keep 70 = .ok (.iaload, 1) := by decide +kernel
theorem dX11_keep_71 : decode cX11_keep 71 = .ok (.aload_n 0, 1) := by decide +kernel
theorem dX11_keep_72 : decode cX11_keep 72 = .ok (.getfield 136, 3) := by decide +kernel
theorem dX11_keep_75 : decode cX11_keep 75 = .ok (.isub, 1) := by decide +kernel
theorem dX11_keep_76 : decode cX11_keep 76 = .ok (.iastore, 1) := by decide +kernel
theorem dX11_keep_77 : decode cX11_keep 77 = .ok (.aload_n 2, 1) := by decide +kernel
theorem dX11_keep_78 : decode cX11_keep 78 = .ok (.iload_n 3, 1) := by decide +kernel
theorem dX11_keep_79 : decode cX11_keep 79 = .ok (.bipush 53, 2) := by decide +kernel
theorem dX11_keep_81 : decode cX11_keep 81 = .ok (.iadd, 1) := by decide +kernel
theorem dX11_keep_82 : decode cX11_keep 82 = .ok (.aload_n 0, 1) := by decide +kernel
theorem dX11_keep_83 : decode cX11_keep 83 = .ok (.iload_n 1, 1) := by decide +kernel
theorem dX11_keep_84 : decode cX11_keep 84 = .ok (.invokevirtual 175, 3) := by decide +kernel
theorem dX11_keep_87 : decode cX11_keep 87 = .ok (.iastore, 1) := by decide +kernel
theorem dX11_keep_88 : decode cX11_keep 88 = .ok (.iconst 0, 1) := by decide +kernel
theorem dX11_keep_89 : decode cX11_keep 89 = .ok (.istore 6, 2) := by decide +kernel
theorem dX11_keep_91 : decode cX11_keep 91 = .ok (.iload 6, 2) := by decide +kernel
theorem dX11_keep_93 : decode cX11_keep 93 = .ok (.aload_n 0, 1) := by decide +kernel
theorem dX11_keep_94 : decode cX11_keep 94 = .ok (.getfield 7, 3) := by decide +kernel
theorem dX11_keep_97 : decode cX11_keep 97 = .ok (.bipush 55, 2) := by decide +kernel
theorem dX11_keep_99 : decode cX11_keep 99 = .ok (.iload_n 1, 1) := by decide +kernel
theorem dX11_keep_100 : decode cX11_keep 100 = .ok (.imul, 1) := by decide +kernel
theorem dX11_keep_101 : decode cX11_keep 101 = .ok (.bipush 54, 2) := by decide +kernel
theorem dX11_keep_103 : decode cX11_keep 103 = .ok (.iadd, 1) := by decide +kernel
theorem dX11_keep_104 : decode cX11_keep 104 = .ok (.iaload, 1) := by decide +kernel
theorem dX11_keep_105 : decode cX11_keep 105 = .ok (.if_icmp .ge 30, 3) := by decide +kernel
theorem dX11_keep_108 : decode cX11_keep 108 = .ok (.aload 4, 2) := by decide +kernel
theorem dX11_keep_110 : decode cX11_keep 110 = .ok (.iload 5, 2) := by decide +kernel
theorem dX11_keep_112 : decode cX11_keep 112 = .ok (.iload 6, 2) := by decide +kernel
theorem dX11_keep_114 : decode cX11_keep 114 = .ok (.iadd, 1) := by decide +kernel
theorem dX11_keep_115 : decode cX11_keep 115 = .ok (.aload_n 0, 1) := by decide +kernel
theorem dX11_keep_116 : decode cX11_keep 116 = .ok (.getfield 13, 3) := by decide +kernel
theorem dX11_keep_119 : decode cX11_keep 119 = .ok (.sipush 512, 3) := by decide +kernel
theorem dX11_keep_122 : decode cX11_keep 122 = .ok (.iload_n 1, 1) := by decide +kernel
theorem dX11_keep_123 : decode cX11_keep 123 = .ok (.imul, 1) := by decide +kernel
theorem dX11_keep_124 : decode cX11_keep 124 = .ok (.iload 6, 2) := by decide +kernel
theorem dX11_keep_126 : decode cX11_keep 126 = .ok (.iadd, 1) := by decide +kernel
theorem dX11_keep_127 : decode cX11_keep 127 = .ok (.iaload, 1) := by decide +kernel
theorem dX11_keep_128 : decode cX11_keep 128 = .ok (.iastore, 1) := by decide +kernel
theorem dX11_keep_129 : decode cX11_keep 129 = .ok (.iinc 6 1, 3) := by decide +kernel
theorem dX11_keep_132 : decode cX11_keep 132 = .ok (.goto (-41), 3) := by decide +kernel
theorem dX11_keep_135 : decode cX11_keep 135 = .ok (.return_, 1) := by decide +kernel
theorem dX11_giveBack_0 : decode cX11_giveBack 0 = .ok (.iconst 0, 1) := by decide +kernel
theorem dX11_giveBack_1 : decode cX11_giveBack 1 = .ok (.istore 6, 2) := by decide +kernel
theorem dX11_giveBack_3 : decode cX11_giveBack 3 = .ok (.iload 6, 2) := by decide +kernel
theorem dX11_giveBack_5 : decode cX11_giveBack 5 = .ok (.bipush 55, 2) := by decide +kernel
theorem dX11_giveBack_7 : decode cX11_giveBack 7 = .ok (.if_icmp .ge 27, 3) := by decide +kernel
theorem dX11_giveBack_10 : decode cX11_giveBack 10 = .ok (.aload_n 0, 1) := by decide +kernel
theorem dX11_giveBack_11 : decode cX11_giveBack 11 = .ok (.getfield 7, 3) := by decide +kernel
theorem dX11_giveBack_14 : decode cX11_giveBack 14 = .ok (.bipush 55, 2) := by decide +kernel
theorem dX11_giveBack_16 : decode cX11_giveBack 16 = .ok (.iload_n 1, 1) := by decide +kernel
theorem dX11_giveBack_17 : decode cX11_giveBack 17 = .ok (.imul, 1) := by decide +kernel
theorem dX11_giveBack_18 : decode cX11_giveBack 18 = .ok (.iload 6, 2) := by decide +kernel
theorem dX11_giveBack_20 : decode cX11_giveBack 20 = .ok (.iadd, 1) := by decide +kernel
theorem dX11_giveBack_21 : decode cX11_giveBack 21 = .ok (.aload_n 2, 1) := by decide +kernel
theorem dX11_giveBack_22 : decode cX11_giveBack 22 = .ok (.iload_n 3, 1) := by decide +kernel
theorem dX11_giveBack_23 : decode cX11_giveBack 23 = .ok (.iload 6, 2) := by decide +kernel
theorem dX11_giveBack_25 : decode cX11_giveBack 25 = .ok (.iadd, 1) := by decide +kernel
theorem dX11_giveBack_26 : decode cX11_giveBack 26 = .ok (.iaload, 1) := by decide +kernel
theorem dX11_giveBack_27 : decode cX11_giveBack 27 = .ok (.iastore, 1) := by decide +kernel
theorem dX11_giveBack_28 : decode cX11_giveBack 28 = .ok (.iinc 6 1, 3) := by decide +kernel
theorem dX11_giveBack_31 : decode cX11_giveBack 31 = .ok (.goto (-28), 3) := by decide +kernel
theorem dX11_giveBack_34 : decode cX11_giveBack 34 = .ok (.aload_n 0, 1) := by decide +kernel
theorem dX11_giveBack_35 : decode cX11_giveBack 35 = .ok (.getfield 7, 3) := by decide +kernel
theorem dX11_giveBack_38 : decode cX11_giveBack 38 = .ok (.bipush 55, 2) := by decide +kernel
theorem dX11_giveBack_40 : decode cX11_giveBack 40 = .ok (.iload_n 1, 1) := by decide +kernel
theorem dX11_giveBack_41 : decode cX11_giveBack 41 = .ok (.imul, 1) := by decide +kernel
theorem dX11_giveBack_42 : decode cX11_giveBack 42 = .ok (.bipush 50, 2) := by decide +kernel
theorem dX11_giveBack_44 : decode cX11_giveBack 44 = .ok (.iadd, 1) := by decide +kernel
theorem dX11_giveBack_45 : decode cX11_giveBack 45 = .ok (.aload_n 2, 1) := by decide +kernel
theorem dX11_giveBack_46 : decode cX11_giveBack 46 = .ok (.iload_n 3, 1) := by decide +kernel
theorem dX11_giveBack_47 : decode cX11_giveBack 47 = .ok (.bipush 50, 2) := by decide +kernel
theorem dX11_giveBack_49 : decode cX11_giveBack 49 = .ok (.iadd, 1) := by decide +kernel
theorem dX11_giveBack_50 : decode cX11_giveBack 50 = .ok (.iaload, 1) := by decide +kernel
theorem dX11_giveBack_51 : decode cX11_giveBack 51 = .ok (.iconst (-1), 1) := by decide +kernel
theorem dX11_giveBack_52 : decode cX11_giveBack 52 = .ok (.if_icmp .ne 7, 3) := by decide +kernel
theorem dX11_giveBack_55 : decode cX11_giveBack 55 = .ok (.iconst (-1), 1) := by decide +kernel
theorem dX11_giveBack_56 : decode cX11_giveBack 56 = .ok (.goto 14, 3) := by decide +kernel
theorem dX11_giveBack_59 : decode cX11_giveBack 59 = .ok (.aload_n 0, 1) := by decide +kernel
theorem dX11_giveBack_60 : decode cX11_giveBack 60 = .ok (.getfield 136, 3) := by decide +kernel
theorem dX11_giveBack_63 : decode cX11_giveBack 63 = .ok (.aload_n 2, 1) := by decide +kernel
theorem dX11_giveBack_64 : decode cX11_giveBack 64 = .ok (.iload_n 3, 1) := by decide +kernel
theorem dX11_giveBack_65 : decode cX11_giveBack 65 = .ok (.bipush 50, 2) := by decide +kernel
theorem dX11_giveBack_67 : decode cX11_giveBack 67 = .ok (.iadd, 1) := by decide +kernel
theorem dX11_giveBack_68 : decode cX11_giveBack 68 = .ok (.iaload, 1) := by decide +kernel
theorem dX11_giveBack_69 : decode cX11_giveBack 69 = .ok (.iadd, 1) := by decide +kernel
theorem dX11_giveBack_70 : decode cX11_giveBack 70 = .ok (.iastore, 1) := by decide +kernel
theorem dX11_giveBack_71 : decode cX11_giveBack 71 = .ok (.iconst 0, 1) := by decide +kernel
theorem dX11_giveBack_72 : decode cX11_giveBack 72 = .ok (.istore 6, 2) := by decide +kernel
theorem dX11_giveBack_74 : decode cX11_giveBack 74 = .ok (.iload 6, 2) := by decide +kernel
theorem dX11_giveBack_76 : decode cX11_giveBack 76 = .ok (.aload_n 2, 1) := by decide +kernel
theorem dX11_giveBack_77 : decode cX11_giveBack 77 = .ok (.iload_n 3, 1) := by decide +kernel
theorem dX11_giveBack_78 : decode cX11_giveBack 78 = .ok (.bipush 54, 2) := by decide +kernel
theorem dX11_giveBack_80 : decode cX11_giveBack 80 = .ok (.iadd, 1) := by decide +kernel
theorem dX11_giveBack_81 : decode cX11_giveBack 81 = .ok (.iaload, 1) := by decide +kernel
theorem dX11_giveBack_82 : decode cX11_giveBack 82 = .ok (.if_icmp .ge 30, 3) := by decide +kernel
theorem dX11_giveBack_85 : decode cX11_giveBack 85 = .ok (.aload_n 0, 1) := by decide +kernel
theorem dX11_giveBack_86 : decode cX11_giveBack 86 = .ok (.getfield 13, 3) := by decide +kernel
theorem dX11_giveBack_89 : decode cX11_giveBack 89 = .ok (.sipush 512, 3) := by decide +kernel
theorem dX11_giveBack_92 : decode cX11_giveBack 92 = .ok (.iload_n 1, 1) := by decide +kernel
theorem dX11_giveBack_93 : decode cX11_giveBack 93 = .ok (.imul, 1) := by decide +kernel
theorem dX11_giveBack_94 : decode cX11_giveBack 94 = .ok (.iload 6, 2) := by decide +kernel
theorem dX11_giveBack_96 : decode cX11_giveBack 96 = .ok (.iadd, 1) := by decide +kernel
theorem dX11_giveBack_97 : decode cX11_giveBack 97 = .ok (.aload 4, 2) := by decide +kernel
theorem dX11_giveBack_99 : decode cX11_giveBack 99 = .ok (.iload 5, 2) := by decide +kernel
theorem dX11_giveBack_101 : decode cX11_giveBack 101 = .ok (.iload 6, 2) := by decide +kernel
theorem dX11_giveBack_103 : decode cX11_giveBack 103 = .ok (.iadd, 1) := by decide +kernel
theorem dX11_giveBack_104 : decode cX11_giveBack 104 = .ok (.iaload, 1) := by decide +kernel
theorem dX11_giveBack_105 : decode cX11_giveBack 105 = .ok (.iastore, 1) := by decide +kernel
theorem dX11_giveBack_106 : decode cX11_giveBack 106 = .ok (.iinc 6 1, 3) := by decide +kernel
theorem dX11_giveBack_109 : decode cX11_giveBack 109 = .ok (.goto (-35), 3) := by decide +kernel
theorem dX11_giveBack_112 : decode cX11_giveBack 112 = .ok (.aload_n 0, 1) := by decide +kernel
theorem dX11_giveBack_113 : decode cX11_giveBack 113 = .ok (.iload_n 1, 1) := by decide +kernel
theorem dX11_giveBack_114 : decode cX11_giveBack 114 = .ok (.aload_n 2, 1) := by decide +kernel
theorem dX11_giveBack_115 : decode cX11_giveBack 115 = .ok (.iload_n 3, 1) := by decide +kernel
theorem dX11_giveBack_116 : decode cX11_giveBack 116 = .ok (.bipush 53, 2) := by decide +kernel
theorem dX11_giveBack_118 : decode cX11_giveBack 118 = .ok (.iadd, 1) := by decide +kernel
theorem dX11_giveBack_119 : decode cX11_giveBack 119 = .ok (.iaload, 1) := by decide +kernel
theorem dX11_giveBack_120 : decode cX11_giveBack 120 = .ok (.invokevirtual 205, 3) := by decide +kernel
theorem dX11_giveBack_123 : decode cX11_giveBack 123 = .ok (.iconst 0, 1) := by decide +kernel
theorem dX11_giveBack_124 : decode cX11_giveBack 124 = .ok (.istore 6, 2) := by decide +kernel
theorem dX11_giveBack_126 : decode cX11_giveBack 126 = .ok (.iconst 0, 1) := by decide +kernel
theorem dX11_giveBack_127 : decode cX11_giveBack 127 = .ok (.istore 7, 2) := by decide +kernel
theorem dX11_giveBack_129 : decode cX11_giveBack 129 = .ok (.iload 7, 2) := by decide +kernel
theorem dX11_giveBack_131 : decode cX11_giveBack 131 = .ok (.bipush 8, 2) := by decide +kernel
theorem dX11_giveBack_133 : decode cX11_giveBack 133 = .ok (.if_icmp .ge 75, 3) := by decide +kernel
theorem dX11_giveBack_136 : decode cX11_giveBack 136 = .ok (.aload_n 0, 1) := by decide +kernel
theorem dX11_giveBack_137 : decode cX11_giveBack 137 = .ok (.aload_n 0, 1) := by decide +kernel
theorem dX11_giveBack_138 : decode cX11_giveBack 138 = .ok (.getfield 7, 3) := by decide +kernel
theorem dX11_giveBack_141 : decode cX11_giveBack 141 = .ok (.bipush 55, 2) := by decide +kernel
theorem dX11_giveBack_143 : decode cX11_giveBack 143 = .ok (.iload_n 1, 1) := by decide +kernel
theorem dX11_giveBack_144 : decode cX11_giveBack 144 = .ok (.imul, 1) := by decide +kernel
theorem dX11_giveBack_145 : decode cX11_giveBack 145 = .ok (.iload 7, 2) := by decide +kernel
theorem dX11_giveBack_147 : decode cX11_giveBack 147 = .ok (.invokevirtual 223, 3) := by decide +kernel
theorem dX11_giveBack_150 : decode cX11_giveBack 150 = .ok (.istore 8, 2) := by decide +kernel
theorem dX11_giveBack_152 : decode cX11_giveBack 152 = .ok (.aload_n 0, 1) := by decide +kernel
theorem dX11_giveBack_153 : decode cX11_giveBack 153 = .ok (.getfield 83, 3) := by decide +kernel
theorem dX11_giveBack_156 : decode cX11_giveBack 156 = .ok (.bipush 8, 2) := by decide +kernel
theorem dX11_giveBack_158 : decode cX11_giveBack 158 = .ok (.iload_n 1, 1) := by decide +kernel
theorem dX11_giveBack_159 : decode cX11_giveBack 159 = .ok (.imul, 1) := by decide +kernel
theorem dX11_giveBack_160 : decode cX11_giveBack 160 = .ok (.iload 7, 2) := by decide +kernel
theorem dX11_giveBack_162 : decode cX11_giveBack 162 = .ok (.iadd, 1) := by decide +kernel
theorem dX11_giveBack_163 : decode cX11_giveBack 163 = .ok (.iload 8, 2) := by decide +kernel
theorem dX11_giveBack_165 : decode cX11_giveBack 165 = .ok (.ifCond .eq 7, 3) := by decide +kernel
theorem dX11_giveBack_168 : decode cX11_giveBack 168 = .ok (.iconst 0, 1) := by decide +kernel
theorem dX11_giveBack_169 : decode cX11_giveBack 169 = .ok (.goto 4, 3) := by decide +kernel
theorem dX11_giveBack_172 : decode cX11_giveBack 172 = .ok (.iconst 2, 1) := by decide +kernel
theorem dX11_giveBack_173 : decode cX11_giveBack 173 = .ok (.iastore, 1) := by decide +kernel
theorem dX11_giveBack_174 : decode cX11_giveBack 174 = .ok (.aload_n 0, 1) := by decide +kernel
theorem dX11_giveBack_175 : decode cX11_giveBack 175 = .ok (.getfield 86, 3) := by decide +kernel
theorem dX11_giveBack_178 : decode cX11_giveBack 178 = .ok (.bipush 8, 2) := by decide +kernel
theorem dX11_giveBack_180 : decode cX11_giveBack 180 = .ok (.iload_n 1, 1) := by decide +kernel
theorem dX11_giveBack_181 : decode cX11_giveBack 181 = .ok (.imul, 1) := by decide +kernel
theorem dX11_giveBack_182 : decode cX11_giveBack 182 = .ok (.iload 7, 2) := by decide +kernel
theorem dX11_giveBack_184 : decode cX11_giveBack 184 = .ok (.iadd, 1) := by decide +kernel
theorem dX11_giveBack_185 : decode cX11_giveBack 185 = .ok (.iconst (-1), 1) := by decide +kernel
theorem dX11_giveBack_186 : decode cX11_giveBack 186 = .ok (.iastore, 1) := by decide +kernel
theorem dX11_giveBack_187 : decode cX11_giveBack 187 = .ok (.iload 6, 2) := by decide +kernel
theorem dX11_giveBack_189 : decode cX11_giveBack 189 = .ok (.iload 8, 2) := by decide +kernel
theorem dX11_giveBack_191 : decode cX11_giveBack 191 = .ok (.ifCond .eq 7, 3) := by decide +kernel
theorem dX11_giveBack_194 : decode cX11_giveBack 194 = .ok (.iconst 0, 1) := by decide +kernel
theorem dX11_giveBack_195 : decode cX11_giveBack 195 = .ok (.goto 4, 3) := by decide +kernel
theorem dX11_giveBack_198 : decode cX11_giveBack 198 = .ok (.iconst 1, 1) := by decide +kernel
theorem dX11_giveBack_199 : decode cX11_giveBack 199 = .ok (.iadd, 1) := by decide +kernel
theorem dX11_giveBack_200 : decode cX11_giveBack 200 = .ok (.istore 6, 2) := by decide +kernel
theorem dX11_giveBack_202 : decode cX11_giveBack 202 = .ok (.iinc 7 1, 3) := by decide +kernel
theorem dX11_giveBack_205 : decode cX11_giveBack 205 = .ok (.goto (-76), 3) := by decide +kernel
theorem dX11_giveBack_208 : decode cX11_giveBack 208 = .ok (.aload_n 0, 1) := by decide +kernel
theorem dX11_giveBack_209 : decode cX11_giveBack 209 = .ok (.getfield 92, 3) := by decide +kernel
theorem dX11_giveBack_212 : decode cX11_giveBack 212 = .ok (.iload_n 1, 1) := by decide +kernel
theorem dX11_giveBack_213 : decode cX11_giveBack 213 = .ok (.iconst 0, 1) := by decide +kernel
theorem dX11_giveBack_214 : decode cX11_giveBack 214 = .ok (.bastore, 1) := by decide +kernel
theorem dX11_giveBack_215 : decode cX11_giveBack 215 = .ok (.aload_n 0, 1) := by decide +kernel
theorem dX11_giveBack_216 : decode cX11_giveBack 216 = .ok (.getfield 62, 3) := by decide +kernel
theorem dX11_giveBack_219 : decode cX11_giveBack 219 = .ok (.iload_n 1, 1) := by decide +kernel
theorem dX11_giveBack_220 : decode cX11_giveBack 220 = .ok (.iconst 1, 1) := by decide +kernel
theorem dX11_giveBack_221 : decode cX11_giveBack 221 = .ok (.bastore, 1) := by decide +kernel
theorem dX11_giveBack_222 : decode cX11_giveBack 222 = .ok (.iload 6, 2) := by decide +kernel
theorem dX11_giveBack_224 : decode cX11_giveBack 224 = .ok (.ireturn, 1) := by decide +kernel
theorem dX11_snapshot_0 : decode cX11_snapshot 0 = .ok (.aload_n 0, 1) := by decide +kernel
theorem dX11_snapshot_1 : decode cX11_snapshot 1 = .ok (.iload_n 1, 1) := by decide +kernel
theorem dX11_snapshot_2 : decode cX11_snapshot 2 = .ok (.invokevirtual 202, 3) := by decide +kernel
theorem dX11_snapshot_5 : decode cX11_snapshot 5 = .ok (.istore_n 2, 1) := by decide +kernel
theorem dX11_snapshot_6 : decode cX11_snapshot 6 = .ok (.aload_n 0, 1) := by decide +kernel
theorem dX11_snapshot_7 : decode cX11_snapshot 7 = .ok (.iload_n 2, 1) := by decide +kernel
theorem dX11_snapshot_8 : decode cX11_snapshot 8 = .ok (.ifCond .ne 7, 3) := by decide +kernel
theorem dX11_snapshot_11 : decode cX11_snapshot 11 = .ok (.iconst 1, 1) := by decide +kernel
theorem dX11_snapshot_12 : decode cX11_snapshot 12 = .ok (.goto 33, 3) := by decide +kernel
theorem dX11_snapshot_15 : decode cX11_snapshot 15 = .ok (.aload_n 0, 1) := by decide +kernel
theorem dX11_snapshot_16 : decode cX11_snapshot 16 = .ok (.getfield 7, 3) := by decide +kernel
theorem dX11_snapshot_19 : decode cX11_snapshot 19 = .ok (.bipush 55, 2) := by decide +kernel
theorem dX11_snapshot_21 : decode cX11_snapshot 21 = .ok (.iload_n 1, 1) := by decide +kernel
theorem dX11_snapshot_22 : decode cX11_snapshot 22 = .ok (.imul, 1) := by decide +kernel
theorem dX11_snapshot_23 : decode cX11_snapshot 23 = .ok (.bipush 49, 2) := by decide +kernel
theorem dX11_snapshot_25 : decode cX11_snapshot 25 = .ok (.iadd, 1) := by decide +kernel
theorem dX11_snapshot_26 : decode cX11_snapshot 26 = .ok (.iaload, 1) := by decide +kernel
theorem dX11_snapshot_27 : decode cX11_snapshot 27 = .ok (.iconst 3, 1) := by decide +kernel
theorem dX11_snapshot_28 : decode cX11_snapshot 28 = .ok (.if_icmp .eq 12, 3) := by decide +kernel
theorem dX11_snapshot_31 : decode cX11_snapshot 31 = .ok (.aload_n 0, 1) := by decide +kernel
theorem dX11_snapshot_32 : decode cX11_snapshot 32 = .ok (.getfield 227, 3) := by decide +kernel
theorem dX11_snapshot_35 : decode cX11_snapshot 35 = .ok (.bipush 10, 2) := by decide +kernel
theorem dX11_snapshot_37 : decode cX11_snapshot 37 = .ok (.if_icmp .ne 7, 3) := by decide +kernel
theorem dX11_snapshot_40 : decode cX11_snapshot 40 = .ok (.iconst 2, 1) := by decide +kernel
theorem dX11_snapshot_41 : decode cX11_snapshot 41 = .ok (.goto 4, 3) := by decide +kernel
theorem dX11_snapshot_44 : decode cX11_snapshot 44 = .ok (.iconst 0, 1) := by decide +kernel
theorem dX11_snapshot_45 : decode cX11_snapshot 45 = .ok (.invokevirtual 192, 3) := by decide +kernel
theorem dX11_snapshot_48 : decode cX11_snapshot 48 = .ok (.ifCond .eq 5, 3) := by decide +kernel
theorem dX11_snapshot_51 : decode cX11_snapshot 51 = .ok (.iconst 0, 1) := by decide +kernel
theorem dX11_snapshot_52 : decode cX11_snapshot 52 = .ok (.ireturn, 1) := by decide +kernel
theorem dX11_snapshot_53 : decode cX11_snapshot 53 = .ok (.aload_n 0, 1) := by decide +kernel
theorem dX11_snapshot_54 : decode cX11_snapshot 54 = .ok (.getfield 227, 3) := by decide +kernel
theorem dX11_snapshot_57 : decode cX11_snapshot 57 = .ok (.istore_n 3, 1) := by decide +kernel
theorem dX11_snapshot_58 : decode cX11_snapshot 58 = .ok (.aload_n 0, 1) := by decide +kernel
theorem dX11_snapshot_59 : decode cX11_snapshot 59 = .ok (.dup, 1) := by decide +kernel
theorem dX11_snapshot_60 : decode cX11_snapshot 60 = .ok (.getfield 227, 3) := by decide +kernel
theorem dX11_snapshot_63 : decode cX11_snapshot 63 = .ok (.iconst 1, 1) := by decide +kernel
theorem dX11_snapshot_64 : decode cX11_snapshot 64 = .ok (.iadd, 1) := by decide +kernel
theorem dX11_snapshot_65 : decode cX11_snapshot 65 = .ok (.putfield 227, 3) := by decide +kernel
theorem dX11_snapshot_68 : decode cX11_snapshot 68 = .ok (.aload_n 0, 1) := by decide +kernel
theorem dX11_snapshot_69 : decode cX11_snapshot 69 = .ok (.iload_n 1, 1) := by decide +kernel
theorem dX11_snapshot_70 : decode cX11_snapshot 70 = .ok (.aload_n 0, 1) := by decide +kernel
theorem dX11_snapshot_71 : decode cX11_snapshot 71 = .ok (.getfield 28, 3) := by decide +kernel
theorem dX11_snapshot_74 : decode cX11_snapshot 74 = .ok (.bipush 55, 2) := by decide +kernel
theorem dX11_snapshot_76 : decode cX11_snapshot 76 = .ok (.iload_n 3, 1) := by decide +kernel
theorem dX11_snapshot_77 : decode cX11_snapshot 77 = .ok (.imul, 1) := by decide +kernel
theorem dX11_snapshot_78 : decode cX11_snapshot 78 = .ok (.aload_n 0, 1) := by decide +kernel
theorem dX11_snapshot_79 : decode cX11_snapshot 79 = .ok (.getfield 31, 3) := by decide +kernel
theorem dX11_snapshot_82 : decode cX11_snapshot 82 = .ok (.sipush 512, 3) := by decide +kernel
theorem dX11_snapshot_85 : decode cX11_snapshot 85 = .ok (.iload_n 3, 1) := by decide +kernel
theorem dX11_snapshot_86 : decode cX11_snapshot 86 = .ok (.imul, 1) := by decide +kernel
theorem dX11_snapshot_87 : decode cX11_snapshot 87 = .ok (.invokevirtual 230, 3) := by decide +kernel
theorem dX11_snapshot_90 : decode cX11_snapshot 90 = .ok (.aload_n 0, 1) := by decide +kernel
theorem dX11_snapshot_91 : decode cX11_snapshot 91 = .ok (.getfield 34, 3) := by decide +kernel
theorem dX11_snapshot_94 : decode cX11_snapshot 94 = .ok (.iload_n 3, 1) := by decide +kernel
theorem dX11_snapshot_95 : decode cX11_snapshot 95 = .ok (.iload_n 1, 1) := by decide +kernel
theorem dX11_snapshot_96 : decode cX11_snapshot 96 = .ok (.iastore, 1) := by decide +kernel
theorem dX11_snapshot_97 : decode cX11_snapshot 97 = .ok (.aload_n 0, 1) := by decide +kernel
theorem dX11_snapshot_98 : decode cX11_snapshot 98 = .ok (.getfield 37, 3) := by decide +kernel
theorem dX11_snapshot_101 : decode cX11_snapshot 101 = .ok (.iload_n 3, 1) := by decide +kernel
theorem dX11_snapshot_102 : decode cX11_snapshot 102 = .ok (.iconst 0, 1) := by decide +kernel
theorem dX11_snapshot_103 : decode cX11_snapshot 103 = .ok (.iastore, 1) := by decide +kernel
theorem dX11_snapshot_104 : decode cX11_snapshot 104 = .ok (.iconst 0, 1) := by decide +kernel
theorem dX11_snapshot_105 : decode cX11_snapshot 105 = .ok (.istore 4, 2) := by decide +kernel
theorem dX11_snapshot_107 : decode cX11_snapshot 107 = .ok (.iload 4, 2) := by decide +kernel
theorem dX11_snapshot_109 : decode cX11_snapshot 109 = .ok (.bipush 8, 2) := by decide +kernel
theorem dX11_snapshot_111 : decode cX11_snapshot 111 = .ok (.if_icmp .ge 118, 3) := by decide +kernel
theorem dX11_snapshot_114 : decode cX11_snapshot 114 = .ok (.iconst 1, 1) := by decide +kernel
theorem dX11_snapshot_115 : decode cX11_snapshot 115 = .ok (.istore 5, 2) := by decide +kernel
theorem dX11_snapshot_117 : decode cX11_snapshot 117 = .ok (.iconst 4, 1) := by decide +kernel
theorem dX11_snapshot_118 : decode cX11_snapshot 118 = .ok (.iload 4, 2) := by decide +kernel
theorem dX11_snapshot_120 : decode cX11_snapshot 120 = .ok (.imul, 1) := by decide +kernel
theorem dX11_snapshot_121 : decode cX11_snapshot 121 = .ok (.istore 6, 2) := by decide +kernel
theorem dX11_snapshot_123 : decode cX11_snapshot 123 = .ok (.iload 6, 2) := by decide +kernel
theorem dX11_snapshot_125 : decode cX11_snapshot 125 = .ok (.iconst 4, 1) := by decide +kernel
theorem dX11_snapshot_126 : decode cX11_snapshot 126 = .ok (.iload 4, 2) := by decide +kernel
theorem dX11_snapshot_128 : decode cX11_snapshot 128 = .ok (.imul, 1) := by decide +kernel
theorem dX11_snapshot_129 : decode cX11_snapshot 129 = .ok (.iconst 4, 1) := by decide +kernel
theorem dX11_snapshot_130 : decode cX11_snapshot 130 = .ok (.iadd, 1) := by decide +kernel
theorem dX11_snapshot_131 : decode cX11_snapshot 131 = .ok (.if_icmp .ge 73, 3) := by decide +kernel
theorem dX11_snapshot_134 : decode cX11_snapshot 134 = .ok (.iload 5, 2) := by decide +kernel
theorem dX11_snapshot_136 : decode cX11_snapshot 136 = .ok (.ifCond .eq 59, 3) := by decide +kernel
theorem dX11_snapshot_139 : decode cX11_snapshot 139 = .ok (.aload_n 0, 1) := by decide +kernel
theorem dX11_snapshot_140 : decode cX11_snapshot 140 = .ok (.getfield 7, 3) := by decide +kernel
theorem dX11_snapshot_143 : decode cX11_snapshot 143 = .ok (.bipush 55, 2) := by decide +kernel
theorem dX11_snapshot_145 : decode cX11_snapshot 145 = .ok (.iload_n 1, 1) := by decide +kernel
theorem dX11_snapshot_146 : decode cX11_snapshot 146 = .ok (.imul, 1) := by decide +kernel
theorem dX11_snapshot_147 : decode cX11_snapshot 147 = .ok (.bipush 17, 2) := by decide +kernel
theorem dX11_snapshot_149 : decode cX11_snapshot 149 = .ok (.iadd, 1) := by decide +kernel
theorem dX11_snapshot_150 : decode cX11_snapshot 150 = .ok (.iload 6, 2) := by decide +kernel
theorem dX11_snapshot_152 : decode cX11_snapshot 152 = .ok (.iadd, 1) := by decide +kernel
theorem dX11_snapshot_153 : decode cX11_snapshot 153 = .ok (.iaload, 1) := by decide +kernel
theorem dX11_snapshot_154 : decode cX11_snapshot 154 = .ok (.aload_n 0, 1) := by decide +kernel
theorem dX11_snapshot_155 : decode cX11_snapshot 155 = .ok (.getfield 40, 3) := by decide +kernel
theorem dX11_snapshot_158 : decode cX11_snapshot 158 = .ok (.iload_n 1, 1) := by decide +kernel
theorem dX11_snapshot_159 : decode cX11_snapshot 159 = .ok (.iaload, 1) := by decide +kernel
theorem dX11_snapshot_160 : decode cX11_snapshot 160 = .ok (.iconst (-1), 1) := by decide +kernel
theorem dX11_snapshot_161 : decode cX11_snapshot 161 = .ok (.if_icmp .ne 7, 3) := by decide +kernel
theorem dX11_snapshot_164 : decode cX11_snapshot 164 = .ok (.iconst 0, 1) := by decide +kernel
theorem dX11_snapshot_165 : decode cX11_snapshot 165 = .ok (.goto 23, 3) := by decide +kernel
theorem dX11_snapshot_168 : decode cX11_snapshot 168 = .ok (.aload_n 0, 1) := by decide +kernel
theorem dX11_snapshot_169 : decode cX11_snapshot 169 = .ok (.getfield 28, 3) := by decide +kernel
theorem dX11_snapshot_172 : decode cX11_snapshot 172 = .ok (.bipush 55, 2) := by decide +kernel
theorem dX11_snapshot_174 : decode cX11_snapshot 174 = .ok (.aload_n 0, 1) := by decide +kernel
theorem dX11_snapshot_175 : decode cX11_snapshot 175 = .ok (.getfield 40, 3) := by decide +kernel
theorem dX11_snapshot_178 : decode cX11_snapshot 178 = .ok (.iload_n 1, 1) := by decide +kernel
theorem dX11_snapshot_179 : decode cX11_snapshot 179 = .ok (.iaload, 1) := by decide +kernel
theorem dX11_snapshot_180 : decode cX11_snapshot 180 = .ok (.imul, 1) := by decide +kernel
theorem dX11_snapshot_181 : decode cX11_snapshot 181 = .ok (.bipush 17, 2) := by decide +kernel
theorem dX11_snapshot_183 : decode cX11_snapshot 183 = .ok (.iadd, 1) := by decide +kernel
theorem dX11_snapshot_184 : decode cX11_snapshot 184 = .ok (.iload 6, 2) := by decide +kernel
theorem dX11_snapshot_186 : decode cX11_snapshot 186 = .ok (.iadd, 1) := by decide +kernel
theorem dX11_snapshot_187 : decode cX11_snapshot 187 = .ok (.iaload, 1) := by decide +kernel
theorem dX11_snapshot_188 : decode cX11_snapshot 188 = .ok (.if_icmp .ne 7, 3) := by decide +kernel
theorem dX11_snapshot_191 : decode cX11_snapshot 191 = .ok (.iconst 1, 1) := by decide +kernel
theorem dX11_snapshot_192 : decode cX11_snapshot 192 = .ok (.goto 4, 3) := by decide +kernel
theorem dX11_snapshot_195 : decode cX11_snapshot 195 = .ok (.iconst 0, 1) := by decide +kernel
theorem dX11_snapshot_196 : decode cX11_snapshot 196 = .ok (.istore 5, 2) := by decide +kernel
theorem dX11_snapshot_198 : decode cX11_snapshot 198 = .ok (.iinc 6 1, 3) := by decide +kernel
theorem dX11_snapshot_201 : decode cX11_snapshot 201 = .ok (.goto (-78), 3) := by decide +kernel
theorem dX11_snapshot_204 : decode cX11_snapshot 204 = .ok (.aload_n 0, 1) := by decide +kernel
theorem dX11_snapshot_205 : decode cX11_snapshot 205 = .ok (.getfield 37, 3) := by decide +kernel
theorem dX11_snapshot_208 : decode cX11_snapshot 208 = .ok (.iload_n 3, 1) := by decide +kernel
theorem dX11_snapshot_209 : decode cX11_snapshot 209 = .ok (.dup2, 1) := by decide +kernel
theorem dX11_snapshot_210 : decode cX11_snapshot 210 = .ok (.iaload, 1) := by decide +kernel
theorem dX11_snapshot_211 : decode cX11_snapshot 211 = .ok (.iload 5, 2) := by decide +kernel
theorem dX11_snapshot_213 : decode cX11_snapshot 213 = .ok (.ifCond .eq 7, 3) := by decide +kernel
theorem dX11_snapshot_216 : decode cX11_snapshot 216 = .ok (.iconst 0, 1) := by decide +kernel
theorem dX11_snapshot_217 : decode cX11_snapshot 217 = .ok (.goto 4, 3) := by decide +kernel
theorem dX11_snapshot_220 : decode cX11_snapshot 220 = .ok (.iconst 1, 1) := by decide +kernel
theorem dX11_snapshot_221 : decode cX11_snapshot 221 = .ok (.iadd, 1) := by decide +kernel
theorem dX11_snapshot_222 : decode cX11_snapshot 222 = .ok (.iastore, 1) := by decide +kernel
theorem dX11_snapshot_223 : decode cX11_snapshot 223 = .ok (.iinc 4 1, 3) := by decide +kernel
theorem dX11_snapshot_226 : decode cX11_snapshot 226 = .ok (.goto (-119), 3) := by decide +kernel
theorem dX11_snapshot_229 : decode cX11_snapshot 229 = .ok (.aload_n 0, 1) := by decide +kernel
theorem dX11_snapshot_230 : decode cX11_snapshot 230 = .ok (.getfield 40, 3) := by decide +kernel
theorem dX11_snapshot_233 : decode cX11_snapshot 233 = .ok (.iload_n 1, 1) := by decide +kernel
theorem dX11_snapshot_234 : decode cX11_snapshot 234 = .ok (.iload_n 3, 1) := by decide +kernel
theorem dX11_snapshot_235 : decode cX11_snapshot 235 = .ok (.iastore, 1) := by decide +kernel
theorem dX11_snapshot_236 : decode cX11_snapshot 236 = .ok (.iload_n 3, 1) := by decide +kernel
theorem dX11_snapshot_237 : decode cX11_snapshot 237 = .ok (.ireturn, 1) := by decide +kernel
theorem dX11_restore_0 : decode cX11_restore 0 = .ok (.aload_n 0, 1) := by decide +kernel
theorem dX11_restore_1 : decode cX11_restore 1 = .ok (.iload_n 1, 1) := by decide +kernel
theorem dX11_restore_2 : decode cX11_restore 2 = .ok (.invokevirtual 202, 3) := by decide +kernel
theorem dX11_restore_5 : decode cX11_restore 5 = .ok (.ifCond .eq 21, 3) := by decide +kernel
theorem dX11_restore_8 : decode cX11_restore 8 = .ok (.iload_n 2, 1) := by decide +kernel
theorem dX11_restore_9 : decode cX11_restore 9 = .ok (.iconst 0, 1) := by decide +kernel
theorem dX11_restore_10 : decode cX11_restore 10 = .ok (.aload_n 0, 1) := by decide +kernel
theorem dX11_restore_11 : decode cX11_restore 11 = .ok (.getfield 227, 3) := by decide +kernel
theorem dX11_restore_14 : decode cX11_restore 14 = .ok (.iconst 1, 1) := by decide +kernel
theorem dX11_restore_15 : decode cX11_restore 15 = .ok (.isub, 1) := by decide +kernel
theorem dX11_restore_16 : decode cX11_restore 16 = .ok (.invokestatic 132, 3) := by decide +kernel
theorem dX11_restore_19 : decode cX11_restore 19 = .ok (.ifCond .eq 7, 3) := by decide +kernel
theorem dX11_restore_22 : decode cX11_restore 22 = .ok (.iconst 1, 1) := by decide +kernel
theorem dX11_restore_23 : decode cX11_restore 23 = .ok (.goto 4, 3) := by decide +kernel
theorem dX11_restore_26 : decode cX11_restore 26 = .ok (.iconst 0, 1) := by decide +kernel
theorem dX11_restore_27 : decode cX11_restore 27 = .ok (.istore_n 3, 1) := by decide +kernel
theorem dX11_restore_28 : decode cX11_restore 28 = .ok (.iload_n 3, 1) := by decide +kernel
theorem dX11_restore_29 : decode cX11_restore 29 = .ok (.ifCond .eq 40, 3) := by decide +kernel
theorem dX11_restore_32 : decode cX11_restore 32 = .ok (.aload_n 0, 1) := by decide +kernel
theorem dX11_restore_33 : decode cX11_restore 33 = .ok (.getfield 34, 3) := by decide +kernel
theorem dX11_restore_36 : decode cX11_restore 36 = .ok (.iload_n 2, 1) := by decide +kernel
theorem dX11_restore_37 : decode cX11_restore 37 = .ok (.iaload, 1) := by decide +kernel
theorem dX11_restore_38 : decode cX11_restore 38 = .ok (.iload_n 1, 1) := by decide +kernel
theorem dX11_restore_39 : decode cX11_restore 39 = .ok (.if_icmp .ne 30, 3) := by decide +kernel
theorem dX11_restore_42 : decode cX11_restore 42 = .ok (.aload_n 0, 1) := by decide +kernel
theorem dX11_restore_43 : decode cX11_restore 43 = .ok (.getfield 101, 3) := by decide +kernel
theorem dX11_restore_46 : decode cX11_restore 46 = .ok (.iload_n 1, 1) := by decide +kernel
theorem dX11_restore_47 : decode cX11_restore 47 = .ok (.baload, 1) := by decide +kernel
theorem dX11_restore_48 : decode cX11_restore 48 = .ok (.ifCond .ne 21, 3) := by decide +kernel
theorem dX11_restore_51 : decode cX11_restore 51 = .ok (.aload_n 0, 1) := by decide +kernel
theorem dX11_restore_52 : decode cX11_restore 52 = .ok (.getfield 116, 3) := by decide +kernel
theorem dX11_restore_55 : decode cX11_restore 55 = .ok (.aload_n 0, 1) := by decide +kernel
theorem dX11_restore_56 : decode cX11_restore 56 = .ok (.getfield 49, 3) := by decide +kernel
theorem dX11_restore_59 : decode cX11_restore 59 = .ok (.iload_n 1, 1) := by decide +kernel
theorem dX11_restore_60 : decode cX11_restore 60 = .ok (.iaload, 1) := by decide +kernel
theorem dX11_restore_61 : decode cX11_restore 61 = .ok (.baload, 1) := by decide +kernel
theorem dX11_restore_62 : decode cX11_restore 62 = .ok (.ifCond .ne 7, 3) := by decide +kernel
theorem dX11_restore_65 : decode cX11_restore 65 = .ok (.iconst 1, 1) := by decide +kernel
theorem dX11_restore_66 : decode cX11_restore 66 = .ok (.goto 4, 3) := by decide +kernel
theorem dX11_restore_69 : decode cX11_restore 69 = .ok (.iconst 0, 1) := by decide +kernel
theorem dX11_restore_70 : decode cX11_restore 70 = .ok (.istore 4, 2) := by decide +kernel
theorem dX11_restore_72 : decode cX11_restore 72 = .ok (.aload_n 0, 1) := by decide +kernel
theorem dX11_restore_73 : decode cX11_restore 73 = .ok (.iload_n 3, 1) := by decide +kernel
theorem dX11_restore_74 : decode cX11_restore 74 = .ok (.ifCond .ne 7, 3) := by decide +kernel
theorem dX11_restore_77 : decode cX11_restore 77 = .ok (.iconst 1, 1) := by decide +kernel
theorem dX11_restore_78 : decode cX11_restore 78 = .ok (.goto 13, 3) := by decide +kernel
theorem dX11_restore_81 : decode cX11_restore 81 = .ok (.iload 4, 2) := by decide +kernel
theorem dX11_restore_83 : decode cX11_restore 83 = .ok (.ifCond .eq 7, 3) := by decide +kernel
theorem dX11_restore_86 : decode cX11_restore 86 = .ok (.iconst 0, 1) := by decide +kernel
theorem dX11_restore_87 : decode cX11_restore 87 = .ok (.goto 4, 3) := by decide +kernel
theorem dX11_restore_90 : decode cX11_restore 90 = .ok (.iconst 2, 1) := by decide +kernel
theorem dX11_restore_91 : decode cX11_restore 91 = .ok (.invokevirtual 192, 3) := by decide +kernel
theorem dX11_restore_94 : decode cX11_restore 94 = .ok (.ifCond .eq 5, 3) := by decide +kernel
theorem dX11_restore_97 : decode cX11_restore 97 = .ok (.iconst 0, 1) := by decide +kernel
theorem dX11_restore_98 : decode cX11_restore 98 = .ok (.ireturn, 1) := by decide +kernel
theorem dX11_restore_99 : decode cX11_restore 99 = .ok (.aload_n 0, 1) := by decide +kernel
theorem dX11_restore_100 : decode cX11_restore 100 = .ok (.getfield 40, 3) := by decide +kernel
theorem dX11_restore_103 : decode cX11_restore 103 = .ok (.iload_n 1, 1) := by decide +kernel
theorem dX11_restore_104 : decode cX11_restore 104 = .ok (.iload_n 2, 1) := by decide +kernel
theorem dX11_restore_105 : decode cX11_restore 105 = .ok (.iastore, 1) := by decide +kernel
theorem dX11_restore_106 : decode cX11_restore 106 = .ok (.aload_n 0, 1) := by decide +kernel
theorem dX11_restore_107 : decode cX11_restore 107 = .ok (.iload_n 1, 1) := by decide +kernel
theorem dX11_restore_108 : decode cX11_restore 108 = .ok (.aload_n 0, 1) := by decide +kernel
theorem dX11_restore_109 : decode cX11_restore 109 = .ok (.getfield 28, 3) := by decide +kernel
theorem dX11_restore_112 : decode cX11_restore 112 = .ok (.bipush 55, 2) := by decide +kernel
theorem dX11_restore_114 : decode cX11_restore 114 = .ok (.iload_n 2, 1) := by decide +kernel
theorem dX11_restore_115 : decode cX11_restore 115 = .ok (.imul, 1) := by decide +kernel
theorem dX11_restore_116 : decode cX11_restore 116 = .ok (.aload_n 0, 1) := by decide +kernel
theorem dX11_restore_117 : decode cX11_restore 117 = .ok (.getfield 31, 3) := by decide +kernel
theorem dX11_restore_120 : decode cX11_restore 120 = .ok (.sipush 512, 3) := by decide +kernel
theorem dX11_restore_123 : decode cX11_restore 123 = .ok (.iload_n 2, 1) := by decide +kernel
theorem dX11_restore_124 : decode cX11_restore 124 = .ok (.imul, 1) := by decide +kernel
theorem dX11_restore_125 : decode cX11_restore 125 = .ok (.invokevirtual 234, 3) := by decide +kernel
theorem dX11_restore_128 : decode cX11_restore 128 = .ok (.ireturn, 1) := by decide +kernel
theorem dX11_stepOf_0 : decode cX11_stepOf 0 = .ok (.aload_n 0, 1) := by decide +kernel
theorem dX11_stepOf_1 : decode cX11_stepOf 1 = .ok (.iload_n 1, 1) := by decide +kernel
theorem dX11_stepOf_2 : decode cX11_stepOf 2 = .ok (.aload_n 0, 1) := by decide +kernel
theorem dX11_stepOf_3 : decode cX11_stepOf 3 = .ok (.getfield 16, 3) := by decide +kernel
theorem dX11_stepOf_6 : decode cX11_stepOf 6 = .ok (.bipush 55, 2) := by decide +kernel
theorem dX11_stepOf_8 : decode cX11_stepOf 8 = .ok (.iload_n 1, 1) := by decide +kernel
theorem dX11_stepOf_9 : decode cX11_stepOf 9 = .ok (.imul, 1) := by decide +kernel
theorem dX11_stepOf_10 : decode cX11_stepOf 10 = .ok (.aload_n 0, 1) := by decide +kernel
theorem dX11_stepOf_11 : decode cX11_stepOf 11 = .ok (.getfield 19, 3) := by decide +kernel
theorem dX11_stepOf_14 : decode cX11_stepOf 14 = .ok (.sipush 512, 3) := by decide +kernel
theorem dX11_stepOf_17 : decode cX11_stepOf 17 = .ok (.iload_n 1, 1) := by decide +kernel
theorem dX11_stepOf_18 : decode cX11_stepOf 18 = .ok (.imul, 1) := by decide +kernel
theorem dX11_stepOf_19 : decode cX11_stepOf 19 = .ok (.invokevirtual 230, 3) := by decide +kernel
theorem dX11_stepOf_22 : decode cX11_stepOf 22 = .ok (.aload_n 0, 1) := by decide +kernel
theorem dX11_stepOf_23 : decode cX11_stepOf 23 = .ok (.getfield 25, 3) := by decide +kernel
theorem dX11_stepOf_26 : decode cX11_stepOf 26 = .ok (.iload_n 1, 1) := by decide +kernel
theorem dX11_stepOf_27 : decode cX11_stepOf 27 = .ok (.iconst 0, 1) := by decide +kernel
theorem dX11_stepOf_28 : decode cX11_stepOf 28 = .ok (.iastore, 1) := by decide +kernel
theorem dX11_stepOf_29 : decode cX11_stepOf 29 = .ok (.aload_n 0, 1) := by decide +kernel
theorem dX11_stepOf_30 : decode cX11_stepOf 30 = .ok (.iload_n 1, 1) := by decide +kernel
theorem dX11_stepOf_31 : decode cX11_stepOf 31 = .ok (.invokevirtual 238, 3) := by decide +kernel
theorem dX11_stepOf_34 : decode cX11_stepOf 34 = .ok (.ireturn, 1) := by decide +kernel
theorem dX11_follow_0 : decode cX11_follow 0 = .ok (.aload_n 0, 1) := by decide +kernel
theorem dX11_follow_1 : decode cX11_follow 1 = .ok (.iload_n 1, 1) := by decide +kernel
theorem dX11_follow_2 : decode cX11_follow 2 = .ok (.invokevirtual 202, 3) := by decide +kernel
theorem dX11_follow_5 : decode cX11_follow 5 = .ok (.istore_n 3, 1) := by decide +kernel
theorem dX11_follow_6 : decode cX11_follow 6 = .ok (.aload_n 0, 1) := by decide +kernel
theorem dX11_follow_7 : decode cX11_follow 7 = .ok (.iload_n 3, 1) := by decide +kernel
theorem dX11_follow_8 : decode cX11_follow 8 = .ok (.ifCond .ne 7, 3) := by decide +kernel
theorem dX11_follow_11 : decode cX11_follow 11 = .ok (.iconst 1, 1) := by decide +kernel
theorem dX11_follow_12 : decode cX11_follow 12 = .ok (.goto 24, 3) := by decide +kernel
theorem dX11_follow_15 : decode cX11_follow 15 = .ok (.aload_n 0, 1) := by decide +kernel
theorem dX11_follow_16 : decode cX11_follow 16 = .ok (.getfield 7, 3) := by decide +kernel
theorem dX11_follow_19 : decode cX11_follow 19 = .ok (.bipush 55, 2) := by decide +kernel
theorem dX11_follow_21 : decode cX11_follow 21 = .ok (.iload_n 1, 1) := by decide +kernel
theorem dX11_follow_22 : decode cX11_follow 22 = .ok (.imul, 1) := by decide +kernel
theorem dX11_follow_23 : decode cX11_follow 23 = .ok (.bipush 49, 2) := by decide +kernel
theorem dX11_follow_25 : decode cX11_follow 25 = .ok (.iadd, 1) := by decide +kernel
theorem dX11_follow_26 : decode cX11_follow 26 = .ok (.iaload, 1) := by decide +kernel
theorem dX11_follow_27 : decode cX11_follow 27 = .ok (.iconst 3, 1) := by decide +kernel
theorem dX11_follow_28 : decode cX11_follow 28 = .ok (.if_icmp .ne 7, 3) := by decide +kernel
theorem dX11_follow_31 : decode cX11_follow 31 = .ok (.iconst 2, 1) := by decide +kernel
theorem dX11_follow_32 : decode cX11_follow 32 = .ok (.goto 4, 3) := by decide +kernel
theorem dX11_follow_35 : decode cX11_follow 35 = .ok (.iconst 0, 1) := by decide +kernel
theorem dX11_follow_36 : decode cX11_follow 36 = .ok (.invokevirtual 192, 3) := by decide +kernel
theorem dX11_follow_39 : decode cX11_follow 39 = .ok (.ifCond .eq 5, 3) := by decide +kernel
theorem dX11_follow_42 : decode cX11_follow 42 = .ok (.iconst 0, 1) := by decide +kernel
theorem dX11_follow_43 : decode cX11_follow 43 = .ok (.ireturn, 1) := by decide +kernel
theorem dX11_follow_44 : decode cX11_follow 44 = .ok (.aload_n 0, 1) := by decide +kernel
theorem dX11_follow_45 : decode cX11_follow 45 = .ok (.getfield 101, 3) := by decide +kernel
theorem dX11_follow_48 : decode cX11_follow 48 = .ok (.iload_n 1, 1) := by decide +kernel
theorem dX11_follow_49 : decode cX11_follow 49 = .ok (.baload, 1) := by decide +kernel
theorem dX11_follow_50 : decode cX11_follow 50 = .ok (.istore 4, 2) := by decide +kernel
theorem dX11_follow_52 : decode cX11_follow 52 = .ok (.aload_n 0, 1) := by decide +kernel
theorem dX11_follow_53 : decode cX11_follow 53 = .ok (.getfield 101, 3) := by decide +kernel
theorem dX11_follow_56 : decode cX11_follow 56 = .ok (.iload_n 1, 1) := by decide +kernel
theorem dX11_follow_57 : decode cX11_follow 57 = .ok (.iload_n 2, 1) := by decide +kernel
theorem dX11_follow_58 : decode cX11_follow 58 = .ok (.bastore, 1) := by decide +kernel
theorem dX11_follow_59 : decode cX11_follow 59 = .ok (.iload_n 2, 1) := by decide +kernel
theorem dX11_follow_60 : decode cX11_follow 60 = .ok (.ifCond .eq 12, 3) := by decide +kernel
theorem dX11_follow_63 : decode cX11_follow 63 = .ok (.aload_n 0, 1) := by decide +kernel
theorem dX11_follow_64 : decode cX11_follow 64 = .ok (.iload_n 1, 1) := by decide +kernel
theorem dX11_follow_65 : decode cX11_follow 65 = .ok (.invokevirtual 241, 3) := by decide +kernel
theorem dX11_follow_68 : decode cX11_follow 68 = .ok (.pop, 1) := by decide +kernel
theorem dX11_follow_69 : decode cX11_follow 69 = .ok (.goto 9, 3) := by decide +kernel
theorem dX11_follow_72 : decode cX11_follow 72 = .ok (.aload_n 0, 1) := by decide +kernel
theorem dX11_follow_73 : decode cX11_follow 73 = .ok (.iload_n 1, 1) := by decide +kernel
theorem dX11_follow_74 : decode cX11_follow 74 = .ok (.invokevirtual 238, 3) := by decide +kernel
theorem dX11_follow_77 : decode cX11_follow 77 = .ok (.pop, 1) := by decide +kernel
theorem dX11_follow_78 : decode cX11_follow 78 = .ok (.iload 4, 2) := by decide +kernel
theorem dX11_follow_80 : decode cX11_follow 80 = .ok (.ireturn, 1) := by decide +kernel
theorem dX11_step_0 : decode cX11_step 0 = .ok (.aload_n 0, 1) := by decide +kernel
theorem dX11_step_1 : decode cX11_step 1 = .ok (.aload_n 0, 1) := by decide +kernel
theorem dX11_step_2 : decode cX11_step 2 = .ok (.iload_n 1, 1) := by decide +kernel
theorem dX11_step_3 : decode cX11_step 3 = .ok (.invokevirtual 202, 3) := by decide +kernel
theorem dX11_step_6 : decode cX11_step 6 = .ok (.ifCond .ne 7, 3) := by decide +kernel
theorem dX11_step_9 : decode cX11_step 9 = .ok (.iconst 1, 1) := by decide +kernel
theorem dX11_step_10 : decode cX11_step 10 = .ok (.goto 17, 3) := by decide +kernel
theorem dX11_step_13 : decode cX11_step 13 = .ok (.aload_n 0, 1) := by decide +kernel
theorem dX11_step_14 : decode cX11_step 14 = .ok (.getfield 101, 3) := by decide +kernel
theorem dX11_step_17 : decode cX11_step 17 = .ok (.iload_n 1, 1) := by decide +kernel
theorem dX11_step_18 : decode cX11_step 18 = .ok (.baload, 1) := by decide +kernel
theorem dX11_step_19 : decode cX11_step 19 = .ok (.ifCond .ne 7, 3) := by decide +kernel
theorem dX11_step_22 : decode cX11_step 22 = .ok (.iconst 2, 1) := by decide +kernel
theorem dX11_step_23 : decode cX11_step 23 = .ok (.goto 4, 3) := by decide +kernel
theorem dX11_step_26 : decode cX11_step 26 = .ok (.iconst 0, 1) := by decide +kernel
theorem dX11_step_27 : decode cX11_step 27 = .ok (.invokevirtual 192, 3) := by decide +kernel
theorem dX11_step_30 : decode cX11_step 30 = .ok (.ifCond .eq 5, 3) := by decide +kernel
theorem dX11_step_33 : decode cX11_step 33 = .ok (.iconst 0, 1) := by decide +kernel
theorem dX11_step_34 : decode cX11_step 34 = .ok (.ireturn, 1) := by decide +kernel
theorem dX11_step_35 : decode cX11_step 35 = .ok (.aload_n 0, 1) := by decide +kernel
theorem dX11_step_36 : decode cX11_step 36 = .ok (.iload_n 1, 1) := by decide +kernel
theorem dX11_step_37 : decode cX11_step 37 = .ok (.invokevirtual 241, 3) := by decide +kernel
theorem dX11_step_40 : decode cX11_step 40 = .ok (.ireturn, 1) := by decide +kernel
theorem dX11_fail_0 : decode cX11_fail 0 = .ok (.aload_n 0, 1) := by decide +kernel
theorem dX11_fail_1 : decode cX11_fail 1 = .ok (.iload_n 1, 1) := by decide +kernel
theorem dX11_fail_2 : decode cX11_fail 2 = .ok (.iconst 0, 1) := by decide +kernel
theorem dX11_fail_3 : decode cX11_fail 3 = .ok (.iconst 1, 1) := by decide +kernel
theorem dX11_fail_4 : decode cX11_fail 4 = .ok (.invokestatic 132, 3) := by decide +kernel
theorem dX11_fail_7 : decode cX11_fail 7 = .ok (.ifCond .ne 7, 3) := by decide +kernel
theorem dX11_fail_10 : decode cX11_fail 10 = .ok (.iconst 1, 1) := by decide +kernel
theorem dX11_fail_11 : decode cX11_fail 11 = .ok (.goto 17, 3) := by decide +kernel
theorem dX11_fail_14 : decode cX11_fail 14 = .ok (.aload_n 0, 1) := by decide +kernel
theorem dX11_fail_15 : decode cX11_fail 15 = .ok (.getfield 116, 3) := by decide +kernel
theorem dX11_fail_18 : decode cX11_fail 18 = .ok (.iload_n 1, 1) := by decide +kernel
theorem dX11_fail_19 : decode cX11_fail 19 = .ok (.baload, 1) := by decide +kernel
theorem dX11_fail_20 : decode cX11_fail 20 = .ok (.ifCond .eq 7, 3) := by decide +kernel
theorem dX11_fail_23 : decode cX11_fail 23 = .ok (.iconst 2, 1) := by decide +kernel
theorem dX11_fail_24 : decode cX11_fail 24 = .ok (.goto 4, 3) := by decide +kernel
theorem dX11_fail_27 : decode cX11_fail 27 = .ok (.iconst 0, 1) := by decide +kernel
theorem dX11_fail_28 : decode cX11_fail 28 = .ok (.invokevirtual 192, 3) := by decide +kernel
theorem dX11_fail_31 : decode cX11_fail 31 = .ok (.ifCond .eq 5, 3) := by decide +kernel
theorem dX11_fail_34 : decode cX11_fail 34 = .ok (.iconst 0, 1) := by decide +kernel
theorem dX11_fail_35 : decode cX11_fail 35 = .ok (.ireturn, 1) := by decide +kernel
theorem dX11_fail_36 : decode cX11_fail 36 = .ok (.aload_n 0, 1) := by decide +kernel
theorem dX11_fail_37 : decode cX11_fail 37 = .ok (.getfield 116, 3) := by decide +kernel
theorem dX11_fail_40 : decode cX11_fail 40 = .ok (.iload_n 1, 1) := by decide +kernel
theorem dX11_fail_41 : decode cX11_fail 41 = .ok (.iconst 1, 1) := by decide +kernel
theorem dX11_fail_42 : decode cX11_fail 42 = .ok (.bastore, 1) := by decide +kernel
theorem dX11_fail_43 : decode cX11_fail 43 = .ok (.iconst 0, 1) := by decide +kernel
theorem dX11_fail_44 : decode cX11_fail 44 = .ok (.istore_n 2, 1) := by decide +kernel
theorem dX11_fail_45 : decode cX11_fail 45 = .ok (.iconst 0, 1) := by decide +kernel
theorem dX11_fail_46 : decode cX11_fail 46 = .ok (.istore_n 3, 1) := by decide +kernel
theorem dX11_fail_47 : decode cX11_fail 47 = .ok (.iload_n 3, 1) := by decide +kernel
theorem dX11_fail_48 : decode cX11_fail 48 = .ok (.aload_n 0, 1) := by decide +kernel
theorem dX11_fail_49 : decode cX11_fail 49 = .ok (.getfield 129, 3) := by decide +kernel
theorem dX11_fail_52 : decode cX11_fail 52 = .ok (.if_icmp .ge 88, 3) := by decide +kernel
theorem dX11_fail_55 : decode cX11_fail 55 = .ok (.aload_n 0, 1) := by decide +kernel
theorem dX11_fail_56 : decode cX11_fail 56 = .ok (.getfield 92, 3) := by decide +kernel
theorem dX11_fail_59 : decode cX11_fail 59 = .ok (.iload_n 3, 1) := by decide +kernel
theorem dX11_fail_60 : decode cX11_fail 60 = .ok (.iconst 0, 1) := by decide +kernel
theorem dX11_fail_61 : decode cX11_fail 61 = .ok (.bastore, 1) := by decide +kernel
theorem dX11_fail_62 : decode cX11_fail 62 = .ok (.aload_n 0, 1) := by decide +kernel
theorem dX11_fail_63 : decode cX11_fail 63 = .ok (.getfield 49, 3) := by decide +kernel
theorem dX11_fail_66 : decode cX11_fail 66 = .ok (.iload_n 3, 1) := by decide +kernel
theorem dX11_fail_67 : decode cX11_fail 67 = .ok (.iaload, 1) := by decide +kernel
theorem dX11_fail_68 : decode cX11_fail 68 = .ok (.iload_n 1, 1) := by decide +kernel
theorem dX11_fail_69 : decode cX11_fail 69 = .ok (.if_icmp .ne 65, 3) := by decide +kernel
theorem dX11_fail_72 : decode cX11_fail 72 = .ok (.aload_n 0, 1) := by decide +kernel
theorem dX11_fail_73 : decode cX11_fail 73 = .ok (.getfield 101, 3) := by decide +kernel
theorem dX11_fail_76 : decode cX11_fail 76 = .ok (.iload_n 3, 1) := by decide +kernel
theorem dX11_fail_77 : decode cX11_fail 77 = .ok (.baload, 1) := by decide +kernel
theorem dX11_fail_78 : decode cX11_fail 78 = .ok (.ifCond .eq 18, 3) := by decide +kernel
theorem dX11_fail_81 : decode cX11_fail 81 = .ok (.aload_n 0, 1) := by decide +kernel
theorem dX11_fail_82 : decode cX11_fail 82 = .ok (.getfield 116, 3) := by decide +kernel
theorem dX11_fail_85 : decode cX11_fail 85 = .ok (.iconst 1, 1) := by decide +kernel
theorem dX11_fail_86 : decode cX11_fail 86 = .ok (.iload_n 1, 1) := by decide +kernel
theorem dX11_fail_87 : decode cX11_fail 87 = .ok (.isub, 1) := by decide +kernel
theorem dX11_fail_88 : decode cX11_fail 88 = .ok (.baload, 1) := by decide +kernel
theorem dX11_fail_89 : decode cX11_fail 89 = .ok (.ifCond .ne 7, 3) := by decide +kernel
theorem dX11_fail_92 : decode cX11_fail 92 = .ok (.iconst 1, 1) := by decide +kernel
theorem dX11_fail_93 : decode cX11_fail 93 = .ok (.goto 4, 3) := by decide +kernel
theorem dX11_fail_96 : decode cX11_fail 96 = .ok (.iconst 0, 1) := by decide +kernel
theorem dX11_fail_97 : decode cX11_fail 97 = .ok (.istore 4, 2) := by decide +kernel
theorem dX11_fail_99 : decode cX11_fail 99 = .ok (.iload 4, 2) := by decide +kernel
theorem dX11_fail_101 : decode cX11_fail 101 = .ok (.ifCond .eq 14, 3) := by decide +kernel
theorem dX11_fail_104 : decode cX11_fail 104 = .ok (.aload_n 0, 1) := by decide +kernel
theorem dX11_fail_105 : decode cX11_fail 105 = .ok (.iload_n 3, 1) := by decide +kernel
theorem dX11_fail_106 : decode cX11_fail 106 = .ok (.invokevirtual 244, 3) := by decide +kernel
theorem dX11_fail_109 : decode cX11_fail 109 = .ok (.iinc 2 1, 3) := by decide +kernel
theorem dX11_fail_112 : decode cX11_fail 112 = .ok (.goto 8, 3) := by decide +kernel
theorem dX11_fail_115 : decode cX11_fail 115 = .ok (.aload_n 0, 1) := by decide +kernel
theorem dX11_fail_116 : decode cX11_fail 116 = .ok (.iload_n 3, 1) := by decide +kernel
theorem dX11_fail_117 : decode cX11_fail 117 = .ok (.invokevirtual 247, 3) := by decide +kernel
theorem dX11_fail_120 : decode cX11_fail 120 = .ok (.aload_n 0, 1) := by decide +kernel
theorem dX11_fail_121 : decode cX11_fail 121 = .ok (.getfield 113, 3) := by decide +kernel
theorem dX11_fail_124 : decode cX11_fail 124 = .ok (.iload_n 3, 1) := by decide +kernel
theorem dX11_fail_125 : decode cX11_fail 125 = .ok (.iconst 0, 1) := by decide +kernel
theorem dX11_fail_126 : decode cX11_fail 126 = .ok (.iastore, 1) := by decide +kernel
theorem dX11_fail_127 : decode cX11_fail 127 = .ok (.aload_n 0, 1) := by decide +kernel
theorem dX11_fail_128 : decode cX11_fail 128 = .ok (.getfield 101, 3) := by decide +kernel
theorem dX11_fail_131 : decode cX11_fail 131 = .ok (.iload_n 3, 1) := by decide +kernel
theorem dX11_fail_132 : decode cX11_fail 132 = .ok (.iconst 0, 1) := by decide +kernel
theorem dX11_fail_133 : decode cX11_fail 133 = .ok (.bastore, 1) := by decide +kernel
theorem dX11_fail_134 : decode cX11_fail 134 = .ok (.iinc 3 1, 3) := by decide +kernel
theorem dX11_fail_137 : decode cX11_fail 137 = .ok (.goto (-90), 3) := by decide +kernel
theorem dX11_fail_140 : decode cX11_fail 140 = .ok (.iload_n 2, 1) := by decide +kernel
theorem dX11_fail_141 : decode cX11_fail 141 = .ok (.ireturn, 1) := by decide +kernel
theorem dX11_goOn_0 : decode cX11_goOn 0 = .ok (.aload_n 0, 1) := by decide +kernel
theorem dX11_goOn_1 : decode cX11_goOn 1 = .ok (.iload_n 1, 1) := by decide +kernel
theorem dX11_goOn_2 : decode cX11_goOn 2 = .ok (.aload_n 0, 1) := by decide +kernel
theorem dX11_goOn_3 : decode cX11_goOn 3 = .ok (.getfield 16, 3) := by decide +kernel
theorem dX11_goOn_6 : decode cX11_goOn 6 = .ok (.bipush 55, 2) := by decide +kernel
theorem dX11_goOn_8 : decode cX11_goOn 8 = .ok (.iload_n 1, 1) := by decide +kernel
theorem dX11_goOn_9 : decode cX11_goOn 9 = .ok (.imul, 1) := by decide +kernel
theorem dX11_goOn_10 : decode cX11_goOn 10 = .ok (.aload_n 0, 1) := by decide +kernel
theorem dX11_goOn_11 : decode cX11_goOn 11 = .ok (.getfield 19, 3) := by decide +kernel
theorem dX11_goOn_14 : decode cX11_goOn 14 = .ok (.sipush 512, 3) := by decide +kernel
theorem dX11_goOn_17 : decode cX11_goOn 17 = .ok (.iload_n 1, 1) := by decide +kernel
theorem dX11_goOn_18 : decode cX11_goOn 18 = .ok (.imul, 1) := by decide +kernel
theorem dX11_goOn_19 : decode cX11_goOn 19 = .ok (.invokevirtual 234, 3) := by decide +kernel
theorem dX11_goOn_22 : decode cX11_goOn 22 = .ok (.pop, 1) := by decide +kernel
theorem dX11_goOn_23 : decode cX11_goOn 23 = .ok (.aload_n 0, 1) := by decide +kernel
theorem dX11_goOn_24 : decode cX11_goOn 24 = .ok (.getfield 49, 3) := by decide +kernel
theorem dX11_goOn_27 : decode cX11_goOn 27 = .ok (.iload_n 1, 1) := by decide +kernel
theorem dX11_goOn_28 : decode cX11_goOn 28 = .ok (.iconst 1, 1) := by decide +kernel
theorem dX11_goOn_29 : decode cX11_goOn 29 = .ok (.aload_n 0, 1) := by decide +kernel
theorem dX11_goOn_30 : decode cX11_goOn 30 = .ok (.getfield 49, 3) := by decide +kernel
theorem dX11_goOn_33 : decode cX11_goOn 33 = .ok (.iload_n 1, 1) := by decide +kernel
theorem dX11_goOn_34 : decode cX11_goOn 34 = .ok (.iaload, 1) := by decide +kernel
theorem dX11_goOn_35 : decode cX11_goOn 35 = .ok (.isub, 1) := by decide +kernel
theorem dX11_goOn_36 : decode cX11_goOn 36 = .ok (.iastore, 1) := by decide +kernel
theorem dX11_goOn_37 : decode cX11_goOn 37 = .ok (.iconst 0, 1) := by decide +kernel
theorem dX11_goOn_38 : decode cX11_goOn 38 = .ok (.istore_n 2, 1) := by decide +kernel
theorem dX11_goOn_39 : decode cX11_goOn 39 = .ok (.iload_n 2, 1) := by decide +kernel
theorem dX11_goOn_40 : decode cX11_goOn 40 = .ok (.aload_n 0, 1) := by decide +kernel
theorem dX11_goOn_41 : decode cX11_goOn 41 = .ok (.getfield 25, 3) := by decide +kernel
theorem dX11_goOn_44 : decode cX11_goOn 44 = .ok (.iload_n 1, 1) := by decide +kernel
theorem dX11_goOn_45 : decode cX11_goOn 45 = .ok (.iaload, 1) := by decide +kernel
theorem dX11_goOn_46 : decode cX11_goOn 46 = .ok (.if_icmp .ge 60, 3) := by decide +kernel
theorem dX11_goOn_49 : decode cX11_goOn 49 = .ok (.aload_n 0, 1) := by decide +kernel
theorem dX11_goOn_50 : decode cX11_goOn 50 = .ok (.getfield 13, 3) := by decide +kernel
theorem dX11_goOn_53 : decode cX11_goOn 53 = .ok (.sipush 512, 3) := by decide +kernel
theorem dX11_goOn_56 : decode cX11_goOn 56 = .ok (.iload_n 1, 1) := by decide +kernel
theorem dX11_goOn_57 : decode cX11_goOn 57 = .ok (.imul, 1) := by decide +kernel
theorem dX11_goOn_58 : decode cX11_goOn 58 = .ok (.aload_n 0, 1) := by decide +kernel
theorem dX11_goOn_59 : decode cX11_goOn 59 = .ok (.getfield 7, 3) := by decide +kernel
theorem dX11_goOn_62 : decode cX11_goOn 62 = .ok (.bipush 55, 2) := by decide +kernel
theorem dX11_goOn_64 : decode cX11_goOn 64 = .ok (.iload_n 1, 1) := by decide +kernel
theorem dX11_goOn_65 : decode cX11_goOn 65 = .ok (.imul, 1) := by decide +kernel
theorem dX11_goOn_66 : decode cX11_goOn 66 = .ok (.bipush 54, 2) := by decide +kernel
theorem dX11_goOn_68 : decode cX11_goOn 68 = .ok (.iadd, 1) := by decide +kernel
theorem dX11_goOn_69 : decode cX11_goOn 69 = .ok (.iaload, 1) := by decide +kernel
theorem dX11_goOn_70 : decode cX11_goOn 70 = .ok (.iadd, 1) := by decide +kernel
theorem dX11_goOn_71 : decode cX11_goOn 71 = .ok (.aload_n 0, 1) := by decide +kernel
theorem dX11_goOn_72 : decode cX11_goOn 72 = .ok (.getfield 22, 3) := by decide +kernel
theorem dX11_goOn_75 : decode cX11_goOn 75 = .ok (.sipush 512, 3) := by decide +kernel
theorem dX11_goOn_78 : decode cX11_goOn 78 = .ok (.iload_n 1, 1) := by decide +kernel
theorem dX11_goOn_79 : decode cX11_goOn 79 = .ok (.imul, 1) := by decide +kernel
theorem dX11_goOn_80 : decode cX11_goOn 80 = .ok (.iload_n 2, 1) := by decide +kernel
theorem dX11_goOn_81 : decode cX11_goOn 81 = .ok (.iadd, 1) := by decide +kernel
theorem dX11_goOn_82 : decode cX11_goOn 82 = .ok (.iaload, 1) := by decide +kernel
theorem dX11_goOn_83 : decode cX11_goOn 83 = .ok (.iastore, 1) := by decide +kernel
theorem dX11_goOn_84 : decode cX11_goOn 84 = .ok (.aload_n 0, 1) := by decide +kernel
theorem dX11_goOn_85 : decode cX11_goOn 85 = .ok (.getfield 7, 3) := by decide +kernel
theorem dX11_goOn_88 : decode cX11_goOn 88 = .ok (.bipush 55, 2) := by decide +kernel
theorem dX11_goOn_90 : decode cX11_goOn 90 = .ok (.iload_n 1, 1) := by decide +kernel
theorem dX11_goOn_91 : decode cX11_goOn 91 = .ok (.imul, 1) := by decide +kernel
theorem dX11_goOn_92 : decode cX11_goOn 92 = .ok (.bipush 54, 2) := by decide +kernel
theorem dX11_goOn_94 : decode cX11_goOn 94 = .ok (.iadd, 1) := by decide +kernel
theorem dX11_goOn_95 : decode cX11_goOn 95 = .ok (.dup2, 1) := by decide +kernel
theorem dX11_goOn_96 : decode cX11_goOn 96 = .ok (.iaload, 1) := by decide +kernel
theorem dX11_goOn_97 : decode cX11_goOn 97 = .ok (.iconst 1, 1) := by decide +kernel
theorem dX11_goOn_98 : decode cX11_goOn 98 = .ok (.iadd, 1) := by decide +kernel
theorem dX11_goOn_99 : decode cX11_goOn 99 = .ok (.iastore, 1) := by decide +kernel
theorem dX11_goOn_100 : decode cX11_goOn 100 = .ok (.iinc 2 1, 3) := by decide +kernel
theorem dX11_goOn_103 : decode cX11_goOn 103 = .ok (.goto (-64), 3) := by decide +kernel
theorem dX11_goOn_106 : decode cX11_goOn 106 = .ok (.return_, 1) := by decide +kernel
theorem dX11_die_0 : decode cX11_die 0 = .ok (.aload_n 0, 1) := by decide +kernel
theorem dX11_die_1 : decode cX11_die 1 = .ok (.getfield 7, 3) := by decide +kernel
theorem dX11_die_4 : decode cX11_die 4 = .ok (.bipush 55, 2) := by decide +kernel
theorem dX11_die_6 : decode cX11_die 6 = .ok (.iload_n 1, 1) := by decide +kernel
theorem dX11_die_7 : decode cX11_die 7 = .ok (.imul, 1) := by decide +kernel
theorem dX11_die_8 : decode cX11_die 8 = .ok (.bipush 49, 2) := by decide +kernel
theorem dX11_die_10 : decode cX11_die 10 = .ok (.iadd, 1) := by decide +kernel
theorem dX11_die_11 : decode cX11_die 11 = .ok (.iconst 3, 1) := by decide +kernel
theorem dX11_die_12 : decode cX11_die 12 = .ok (.iastore, 1) := by decide +kernel
theorem dX11_die_13 : decode cX11_die 13 = .ok (.iconst 0, 1) := by decide +kernel
theorem dX11_die_14 : decode cX11_die 14 = .ok (.istore_n 2, 1) := by decide +kernel
theorem dX11_die_15 : decode cX11_die 15 = .ok (.iload_n 2, 1) := by decide +kernel
theorem dX11_die_16 : decode cX11_die 16 = .ok (.bipush 32, 2) := by decide +kernel
theorem dX11_die_18 : decode cX11_die 18 = .ok (.if_icmp .ge 24, 3) := by decide +kernel
theorem dX11_die_21 : decode cX11_die 21 = .ok (.aload_n 0, 1) := by decide +kernel
theorem dX11_die_22 : decode cX11_die 22 = .ok (.getfield 7, 3) := by decide +kernel
theorem dX11_die_25 : decode cX11_die 25 = .ok (.bipush 55, 2) := by decide +kernel
theorem dX11_die_27 : decode cX11_die 27 = .ok (.iload_n 1, 1) := by decide +kernel
theorem dX11_die_28 : decode cX11_die 28 = .ok (.imul, 1) := by decide +kernel
theorem dX11_die_29 : decode cX11_die 29 = .ok (.bipush 17, 2) := by decide +kernel
theorem dX11_die_31 : decode cX11_die 31 = .ok (.iadd, 1) := by decide +kernel
theorem dX11_die_32 : decode cX11_die 32 = .ok (.iload_n 2, 1) := by decide +kernel
theorem dX11_die_33 : decode cX11_die 33 = .ok (.iadd, 1) := by decide +kernel
theorem dX11_die_34 : decode cX11_die 34 = .ok (.iconst 0, 1) := by decide +kernel
theorem dX11_die_35 : decode cX11_die 35 = .ok (.iastore, 1) := by decide +kernel
theorem dX11_die_36 : decode cX11_die 36 = .ok (.iinc 2 1, 3) := by decide +kernel
theorem dX11_die_39 : decode cX11_die 39 = .ok (.goto (-24), 3) := by decide +kernel
theorem dX11_die_42 : decode cX11_die 42 = .ok (.iconst 0, 1) := by decide +kernel
theorem dX11_die_43 : decode cX11_die 43 = .ok (.istore_n 2, 1) := by decide +kernel
theorem dX11_die_44 : decode cX11_die 44 = .ok (.iload_n 2, 1) := by decide +kernel
theorem dX11_die_45 : decode cX11_die 45 = .ok (.bipush 8, 2) := by decide +kernel
theorem dX11_die_47 : decode cX11_die 47 = .ok (.if_icmp .ge 33, 3) := by decide +kernel
theorem dX11_die_50 : decode cX11_die 50 = .ok (.aload_n 0, 1) := by decide +kernel
theorem dX11_die_51 : decode cX11_die 51 = .ok (.getfield 83, 3) := by decide +kernel
theorem dX11_die_54 : decode cX11_die 54 = .ok (.bipush 8, 2) := by decide +kernel
theorem dX11_die_56 : decode cX11_die 56 = .ok (.iload_n 1, 1) := by decide +kernel
theorem dX11_die_57 : decode cX11_die 57 = .ok (.imul, 1) := by decide +kernel
theorem dX11_die_58 : decode cX11_die 58 = .ok (.iload_n 2, 1) := by decide +kernel
theorem dX11_die_59 : decode cX11_die 59 = .ok (.iadd, 1) := by decide +kernel
theorem dX11_die_60 : decode cX11_die 60 = .ok (.iconst 0, 1) := by decide +kernel
theorem dX11_die_61 : decode cX11_die 61 = .ok (.iastore, 1) := by decide +kernel
theorem dX11_die_62 : decode cX11_die 62 = .ok (.aload_n 0, 1) := by decide +kernel
theorem dX11_die_63 : decode cX11_die 63 = .ok (.getfield 86, 3) := by decide +kernel
theorem dX11_die_66 : decode cX11_die 66 = .ok (.bipush 8, 2) := by decide +kernel
theorem dX11_die_68 : decode cX11_die 68 = .ok (.iload_n 1, 1) := by decide +kernel
theorem dX11_die_69 : decode cX11_die 69 = .ok (.imul, 1) := by decide +kernel
theorem dX11_die_70 : decode cX11_die 70 = .ok (.iload_n 2, 1) := by decide +kernel
theorem dX11_die_71 : decode cX11_die 71 = .ok (.iadd, 1) := by decide +kernel
theorem dX11_die_72 : decode cX11_die 72 = .ok (.iconst (-1), 1) := by decide +kernel
theorem dX11_die_73 : decode cX11_die 73 = .ok (.iastore, 1) := by decide +kernel
theorem dX11_die_74 : decode cX11_die 74 = .ok (.iinc 2 1, 3) := by decide +kernel
theorem dX11_die_77 : decode cX11_die 77 = .ok (.goto (-33), 3) := by decide +kernel
theorem dX11_die_80 : decode cX11_die 80 = .ok (.return_, 1) := by decide +kernel
theorem dX11_mend_0 : decode cX11_mend 0 = .ok (.aload_n 0, 1) := by decide +kernel
theorem dX11_mend_1 : decode cX11_mend 1 = .ok (.iload_n 1, 1) := by decide +kernel
theorem dX11_mend_2 : decode cX11_mend 2 = .ok (.iconst 0, 1) := by decide +kernel
theorem dX11_mend_3 : decode cX11_mend 3 = .ok (.iconst 1, 1) := by decide +kernel
theorem dX11_mend_4 : decode cX11_mend 4 = .ok (.invokestatic 132, 3) := by decide +kernel
theorem dX11_mend_7 : decode cX11_mend 7 = .ok (.ifCond .ne 7, 3) := by decide +kernel
theorem dX11_mend_10 : decode cX11_mend 10 = .ok (.iconst 1, 1) := by decide +kernel
theorem dX11_mend_11 : decode cX11_mend 11 = .ok (.goto 17, 3) := by decide +kernel
theorem dX11_mend_14 : decode cX11_mend 14 = .ok (.aload_n 0, 1) := by decide +kernel
theorem dX11_mend_15 : decode cX11_mend 15 = .ok (.getfield 116, 3) := by decide +kernel
theorem dX11_mend_18 : decode cX11_mend 18 = .ok (.iload_n 1, 1) := by decide +kernel
theorem dX11_mend_19 : decode cX11_mend 19 = .ok (.baload, 1) := by decide +kernel
theorem dX11_mend_20 : decode cX11_mend 20 = .ok (.ifCond .ne 7, 3) := by decide +kernel
theorem dX11_mend_23 : decode cX11_mend 23 = .ok (.iconst 2, 1) := by decide +kernel
theorem dX11_mend_24 : decode cX11_mend 24 = .ok (.goto 4, 3) := by decide +kernel
theorem dX11_mend_27 : decode cX11_mend 27 = .ok (.iconst 0, 1) := by decide +kernel
theorem dX11_mend_28 : decode cX11_mend 28 = .ok (.invokevirtual 192, 3) := by decide +kernel
theorem dX11_mend_31 : decode cX11_mend 31 = .ok (.ifCond .ne 10, 3) := by decide +kernel
theorem dX11_mend_34 : decode cX11_mend 34 = .ok (.aload_n 0, 1) := by decide +kernel
theorem dX11_mend_35 : decode cX11_mend 35 = .ok (.getfield 116, 3) := by decide +kernel
theorem dX11_mend_38 : decode cX11_mend 38 = .ok (.iload_n 1, 1) := by decide +kernel
theorem dX11_mend_39 : decode cX11_mend 39 = .ok (.iconst 0, 1) := by decide +kernel
theorem dX11_mend_40 : decode cX11_mend 40 = .ok (.bastore, 1) := by decide +kernel
theorem dX11_mend_41 : decode cX11_mend 41 = .ok (.return_, 1) := by decide +kernel
theorem dX11_time_0 : decode cX11_time 0 = .ok (.aload_n 0, 1) := by decide +kernel
theorem dX11_time_1 : decode cX11_time 1 = .ok (.aload_n 0, 1) := by decide +kernel
theorem dX11_time_2 : decode cX11_time 2 = .ok (.getfield 136, 3) := by decide +kernel
theorem dX11_time_5 : decode cX11_time 5 = .ok (.invokevirtual 250, 3) := by decide +kernel
theorem dX11_time_8 : decode cX11_time 8 = .ok (.ireturn, 1) := by decide +kernel
theorem dX11_of_0 : decode cX11_of 0 = .ok (.aload_n 0, 1) := by decide +kernel
theorem dX11_of_1 : decode cX11_of 1 = .ok (.aload_n 0, 1) := by decide +kernel
theorem dX11_of_2 : decode cX11_of 2 = .ok (.iload_n 1, 1) := by decide +kernel
theorem dX11_of_3 : decode cX11_of 3 = .ok (.invokevirtual 202, 3) := by decide +kernel
theorem dX11_of_6 : decode cX11_of 6 = .ok (.ifCond .ne 7, 3) := by decide +kernel
theorem dX11_of_9 : decode cX11_of 9 = .ok (.iconst 1, 1) := by decide +kernel
theorem dX11_of_10 : decode cX11_of 10 = .ok (.goto 18, 3) := by decide +kernel
theorem dX11_of_13 : decode cX11_of 13 = .ok (.iload_n 2, 1) := by decide +kernel
theorem dX11_of_14 : decode cX11_of 14 = .ok (.iconst 0, 1) := by decide +kernel
theorem dX11_of_15 : decode cX11_of 15 = .ok (.bipush 10, 2) := by decide +kernel
theorem dX11_of_17 : decode cX11_of 17 = .ok (.invokestatic 132, 3) := by decide +kernel
theorem dX11_of_20 : decode cX11_of 20 = .ok (.ifCond .ne 7, 3) := by decide +kernel
theorem dX11_of_23 : decode cX11_of 23 = .ok (.iconst 2, 1) := by decide +kernel
theorem dX11_of_24 : decode cX11_of 24 = .ok (.goto 4, 3) := by decide +kernel
theorem dX11_of_27 : decode cX11_of 27 = .ok (.iconst 0, 1) := by decide +kernel
theorem dX11_of_28 : decode cX11_of 28 = .ok (.invokevirtual 192, 3) := by decide +kernel
theorem dX11_of_31 : decode cX11_of 31 = .ok (.ifCond .eq 5, 3) := by decide +kernel
theorem dX11_of_34 : decode cX11_of 34 = .ok (.iconst 0, 1) := by decide +kernel
theorem dX11_of_35 : decode cX11_of 35 = .ok (.ireturn, 1) := by decide +kernel
theorem dX11_of_36 : decode cX11_of 36 = .ok (.bipush 55, 2) := by decide +kernel
theorem dX11_of_38 : decode cX11_of 38 = .ok (.iload_n 1, 1) := by decide +kernel
theorem dX11_of_39 : decode cX11_of 39 = .ok (.imul, 1) := by decide +kernel
theorem dX11_of_40 : decode cX11_of 40 = .ok (.istore_n 3, 1) := by decide +kernel
theorem dX11_of_41 : decode cX11_of 41 = .ok (.iload_n 2, 1) := by decide +kernel
theorem dX11_of_42 : decode cX11_of 42 = .ok (.tableswitch 153 0 9 #[54, 64, 71, 80, 90, 100, 106, 113, 120, 130], 54) := by decide +kernel
theorem dX11_of_96 : decode cX11_of 96 = .ok (.aload_n 0, 1) := by decide +kernel
theorem dX11_of_97 : decode cX11_of 97 = .ok (.getfield 7, 3) := by decide +kernel
theorem dX11_of_100 : decode cX11_of 100 = .ok (.iload_n 3, 1) := by decide +kernel
theorem dX11_of_101 : decode cX11_of 101 = .ok (.bipush 49, 2) := by decide +kernel
theorem dX11_of_103 : decode cX11_of 103 = .ok (.iadd, 1) := by decide +kernel
theorem dX11_of_104 : decode cX11_of 104 = .ok (.iaload, 1) := by decide +kernel
theorem dX11_of_105 : decode cX11_of 105 = .ok (.ireturn, 1) := by decide +kernel
theorem dX11_of_106 : decode cX11_of 106 = .ok (.aload_n 0, 1) := by decide +kernel
theorem dX11_of_107 : decode cX11_of 107 = .ok (.getfield 49, 3) := by decide +kernel
theorem dX11_of_110 : decode cX11_of 110 = .ok (.iload_n 1, 1) := by decide +kernel
theorem dX11_of_111 : decode cX11_of 111 = .ok (.iaload, 1) := by decide +kernel
theorem dX11_of_112 : decode cX11_of 112 = .ok (.ireturn, 1) := by decide +kernel
theorem dX11_of_113 : decode cX11_of 113 = .ok (.aload_n 0, 1) := by decide +kernel
theorem dX11_of_114 : decode cX11_of 114 = .ok (.getfield 7, 3) := by decide +kernel
theorem dX11_of_117 : decode cX11_of 117 = .ok (.iload_n 3, 1) := by decide +kernel
theorem dX11_of_118 : decode cX11_of 118 = .ok (.iconst 4, 1) := by decide +kernel
theorem dX11_of_119 : decode cX11_of 119 = .ok (.iadd, 1) := by decide +kernel
theorem dX11_of_120 : decode cX11_of 120 = .ok (.iaload, 1) := by decide +kernel
theorem dX11_of_121 : decode cX11_of 121 = .ok (.ireturn, 1) := by decide +kernel
theorem dX11_of_122 : decode cX11_of 122 = .ok (.aload_n 0, 1) := by decide +kernel
theorem dX11_of_123 : decode cX11_of 123 = .ok (.getfield 7, 3) := by decide +kernel
theorem dX11_of_126 : decode cX11_of 126 = .ok (.iload_n 3, 1) := by decide +kernel
theorem dX11_of_127 : decode cX11_of 127 = .ok (.bipush 7, 2) := by decide +kernel
theorem dX11_of_129 : decode cX11_of 129 = .ok (.iadd, 1) := by decide +kernel
theorem dX11_of_130 : decode cX11_of 130 = .ok (.iaload, 1) := by decide +kernel
theorem dX11_of_131 : decode cX11_of 131 = .ok (.ireturn, 1) := by decide +kernel
theorem dX11_of_132 : decode cX11_of 132 = .ok (.aload_n 0, 1) := by decide +kernel
theorem dX11_of_133 : decode cX11_of 133 = .ok (.getfield 7, 3) := by decide +kernel
theorem dX11_of_136 : decode cX11_of 136 = .ok (.iload_n 3, 1) := by decide +kernel
theorem dX11_of_137 : decode cX11_of 137 = .ok (.bipush 8, 2) := by decide +kernel
theorem dX11_of_139 : decode cX11_of 139 = .ok (.iadd, 1) := by decide +kernel
theorem dX11_of_140 : decode cX11_of 140 = .ok (.iaload, 1) := by decide +kernel
theorem dX11_of_141 : decode cX11_of 141 = .ok (.ireturn, 1) := by decide +kernel
theorem dX11_of_142 : decode cX11_of 142 = .ok (.aload_n 0, 1) := by decide +kernel
theorem dX11_of_143 : decode cX11_of 143 = .ok (.iload_n 1, 1) := by decide +kernel
theorem dX11_of_144 : decode cX11_of 144 = .ok (.invokevirtual 175, 3) := by decide +kernel
theorem dX11_of_147 : decode cX11_of 147 = .ok (.ireturn, 1) := by decide +kernel
theorem dX11_of_148 : decode cX11_of 148 = .ok (.aload_n 0, 1) := by decide +kernel
theorem dX11_of_149 : decode cX11_of 149 = .ok (.getfield 74, 3) := by decide +kernel
theorem dX11_of_152 : decode cX11_of 152 = .ok (.iload_n 1, 1) := by decide +kernel
theorem dX11_of_153 : decode cX11_of 153 = .ok (.iaload, 1) := by decide +kernel
theorem dX11_of_154 : decode cX11_of 154 = .ok (.ireturn, 1) := by decide +kernel
theorem dX11_of_155 : decode cX11_of 155 = .ok (.aload_n 0, 1) := by decide +kernel
theorem dX11_of_156 : decode cX11_of 156 = .ok (.getfield 77, 3) := by decide +kernel
theorem dX11_of_159 : decode cX11_of 159 = .ok (.iload_n 1, 1) := by decide +kernel
theorem dX11_of_160 : decode cX11_of 160 = .ok (.iaload, 1) := by decide +kernel
theorem dX11_of_161 : decode cX11_of 161 = .ok (.ireturn, 1) := by decide +kernel
theorem dX11_of_162 : decode cX11_of 162 = .ok (.aload_n 0, 1) := by decide +kernel
theorem dX11_of_163 : decode cX11_of 163 = .ok (.getfield 7, 3) := by decide +kernel
theorem dX11_of_166 : decode cX11_of 166 = .ok (.iload_n 3, 1) := by decide +kernel
theorem dX11_of_167 : decode cX11_of 167 = .ok (.bipush 54, 2) := by decide +kernel
theorem dX11_of_169 : decode cX11_of 169 = .ok (.iadd, 1) := by decide +kernel
theorem dX11_of_170 : decode cX11_of 170 = .ok (.iaload, 1) := by decide +kernel
theorem dX11_of_171 : decode cX11_of 171 = .ok (.ireturn, 1) := by decide +kernel
theorem dX11_of_172 : decode cX11_of 172 = .ok (.aload_n 0, 1) := by decide +kernel
theorem dX11_of_173 : decode cX11_of 173 = .ok (.getfield 92, 3) := by decide +kernel
theorem dX11_of_176 : decode cX11_of 176 = .ok (.iload_n 1, 1) := by decide +kernel
theorem dX11_of_177 : decode cX11_of 177 = .ok (.baload, 1) := by decide +kernel
theorem dX11_of_178 : decode cX11_of 178 = .ok (.ifCond .eq 15, 3) := by decide +kernel
theorem dX11_of_181 : decode cX11_of 181 = .ok (.aload_n 0, 1) := by decide +kernel
theorem dX11_of_182 : decode cX11_of 182 = .ok (.getfield 95, 3) := by decide +kernel
theorem dX11_of_185 : decode cX11_of 185 = .ok (.iload_n 1, 1) := by decide +kernel
theorem dX11_of_186 : decode cX11_of 186 = .ok (.iaload, 1) := by decide +kernel
theorem dX11_of_187 : decode cX11_of 187 = .ok (.invokestatic 217, 3) := by decide +kernel
theorem dX11_of_190 : decode cX11_of 190 = .ok (.goto 4, 3) := by decide +kernel
theorem dX11_of_193 : decode cX11_of 193 = .ok (.iconst (-1), 1) := by decide +kernel
theorem dX11_of_194 : decode cX11_of 194 = .ok (.ireturn, 1) := by decide +kernel
theorem dX11_of_195 : decode cX11_of 195 = .ok (.aload_n 0, 1) := by decide +kernel
theorem dX11_of_196 : decode cX11_of 196 = .ok (.getfield 98, 3) := by decide +kernel
theorem dX11_of_199 : decode cX11_of 199 = .ok (.iload_n 1, 1) := by decide +kernel
theorem dX11_of_200 : decode cX11_of 200 = .ok (.iaload, 1) := by decide +kernel
theorem dX11_of_201 : decode cX11_of 201 = .ok (.ireturn, 1) := by decide +kernel
theorem dX11_register_0 : decode cX11_register 0 = .ok (.aload_n 0, 1) := by decide +kernel
theorem dX11_register_1 : decode cX11_register 1 = .ok (.aload_n 0, 1) := by decide +kernel
theorem dX11_register_2 : decode cX11_register 2 = .ok (.iload_n 1, 1) := by decide +kernel
theorem dX11_register_3 : decode cX11_register 3 = .ok (.invokevirtual 202, 3) := by decide +kernel
theorem dX11_register_6 : decode cX11_register 6 = .ok (.ifCond .eq 16, 3) := by decide +kernel
theorem dX11_register_9 : decode cX11_register 9 = .ok (.iload_n 2, 1) := by decide +kernel
theorem dX11_register_10 : decode cX11_register 10 = .ok (.iconst 0, 1) := by decide +kernel
theorem dX11_register_11 : decode cX11_register 11 = .ok (.iconst 3, 1) := by decide +kernel
theorem dX11_register_12 : decode cX11_register 12 = .ok (.invokestatic 132, 3) := by decide +kernel
theorem dX11_register_15 : decode cX11_register 15 = .ok (.ifCond .eq 7, 3) := by decide +kernel
theorem dX11_register_18 : decode cX11_register 18 = .ok (.iconst 0, 1) := by decide +kernel
theorem dX11_register_19 : decode cX11_register 19 = .ok (.goto 4, 3) := by decide +kernel
theorem dX11_register_22 : decode cX11_register 22 = .ok (.iconst 1, 1) := by decide +kernel
theorem dX11_register_23 : decode cX11_register 23 = .ok (.invokevirtual 192, 3) := by decide +kernel
theorem dX11_register_26 : decode cX11_register 26 = .ok (.ifCond .eq 5, 3) := by decide +kernel
theorem dX11_register_29 : decode cX11_register 29 = .ok (.iconst 0, 1) := by decide +kernel
theorem dX11_register_30 : decode cX11_register 30 = .ok (.ireturn, 1) := by decide +kernel
theorem dX11_register_31 : decode cX11_register 31 = .ok (.aload_n 0, 1) := by decide +kernel
theorem dX11_register_32 : decode cX11_register 32 = .ok (.getfield 55, 3) := by decide +kernel
theorem dX11_register_35 : decode cX11_register 35 = .ok (.iload_n 1, 1) := by decide +kernel
theorem dX11_register_36 : decode cX11_register 36 = .ok (.baload, 1) := by decide +kernel
theorem dX11_register_37 : decode cX11_register 37 = .ok (.ifCond .eq 7, 3) := by decide +kernel
theorem dX11_register_40 : decode cX11_register 40 = .ok (.iconst (-1), 1) := by decide +kernel
theorem dX11_register_41 : decode cX11_register 41 = .ok (.goto 14, 3) := by decide +kernel
theorem dX11_register_44 : decode cX11_register 44 = .ok (.aload_n 0, 1) := by decide +kernel
theorem dX11_register_45 : decode cX11_register 45 = .ok (.getfield 7, 3) := by decide +kernel
theorem dX11_register_48 : decode cX11_register 48 = .ok (.bipush 55, 2) := by decide +kernel
theorem dX11_register_50 : decode cX11_register 50 = .ok (.iload_n 1, 1) := by decide +kernel
theorem dX11_register_51 : decode cX11_register 51 = .ok (.imul, 1) := by decide +kernel
theorem dX11_register_52 : decode cX11_register 52 = .ok (.iload_n 2, 1) := by decide +kernel
theorem dX11_register_53 : decode cX11_register 53 = .ok (.iadd, 1) := by decide +kernel
theorem dX11_register_54 : decode cX11_register 54 = .ok (.iaload, 1) := by decide +kernel
theorem dX11_register_55 : decode cX11_register 55 = .ok (.ireturn, 1) := by decide +kernel
theorem dX11_isPage_0 : decode cX11_isPage 0 = .ok (.aload_n 0, 1) := by decide +kernel
theorem dX11_isPage_1 : decode cX11_isPage 1 = .ok (.iload_n 1, 1) := by decide +kernel
theorem dX11_isPage_2 : decode cX11_isPage 2 = .ok (.invokevirtual 202, 3) := by decide +kernel
theorem dX11_isPage_5 : decode cX11_isPage 5 = .ok (.ifCond .eq 17, 3) := by decide +kernel
theorem dX11_isPage_8 : decode cX11_isPage 8 = .ok (.iload_n 2, 1) := by decide +kernel
theorem dX11_isPage_9 : decode cX11_isPage 9 = .ok (.iconst 0, 1) := by decide +kernel
theorem dX11_isPage_10 : decode cX11_isPage 10 = .ok (.bipush 7, 2) := by decide +kernel
theorem dX11_isPage_12 : decode cX11_isPage 12 = .ok (.invokestatic 132, 3) := by decide +kernel
theorem dX11_isPage_15 : decode cX11_isPage 15 = .ok (.ifCond .eq 7, 3) := by decide +kernel
theorem dX11_isPage_18 : decode cX11_isPage 18 = .ok (.iconst 1, 1) := by decide +kernel
theorem dX11_isPage_19 : decode cX11_isPage 19 = .ok (.goto 4, 3) := by decide +kernel
theorem dX11_isPage_22 : decode cX11_isPage 22 = .ok (.iconst 0, 1) := by decide +kernel
theorem dX11_isPage_23 : decode cX11_isPage 23 = .ok (.ireturn, 1) := by decide +kernel
theorem dX11_word_0 : decode cX11_word 0 = .ok (.aload_n 0, 1) := by decide +kernel
theorem dX11_word_1 : decode cX11_word 1 = .ok (.aload_n 0, 1) := by decide +kernel
theorem dX11_word_2 : decode cX11_word 2 = .ok (.iload_n 1, 1) := by decide +kernel
theorem dX11_word_3 : decode cX11_word 3 = .ok (.iload_n 2, 1) := by decide +kernel
theorem dX11_word_4 : decode cX11_word 4 = .ok (.invokevirtual 253, 3) := by decide +kernel
theorem dX11_word_7 : decode cX11_word 7 = .ok (.ifCond .eq 16, 3) := by decide +kernel
theorem dX11_word_10 : decode cX11_word 10 = .ok (.iload_n 3, 1) := by decide +kernel
theorem dX11_word_11 : decode cX11_word 11 = .ok (.iconst 0, 1) := by decide +kernel
theorem dX11_word_12 : decode cX11_word 12 = .ok (.iconst 3, 1) := by decide +kernel
theorem dX11_word_13 : decode cX11_word 13 = .ok (.invokestatic 132, 3) := by decide +kernel
theorem dX11_word_16 : decode cX11_word 16 = .ok (.ifCond .eq 7, 3) := by decide +kernel
theorem dX11_word_19 : decode cX11_word 19 = .ok (.iconst 0, 1) := by decide +kernel
theorem dX11_word_20 : decode cX11_word 20 = .ok (.goto 4, 3) := by decide +kernel
theorem dX11_word_23 : decode cX11_word 23 = .ok (.iconst 1, 1) := by decide +kernel
theorem dX11_word_24 : decode cX11_word 24 = .ok (.invokevirtual 192, 3) := by decide +kernel
theorem dX11_word_27 : decode cX11_word 27 = .ok (.ifCond .eq 5, 3) := by decide +kernel
theorem dX11_word_30 : decode cX11_word 30 = .ok (.iconst 0, 1) := by decide +kernel
theorem dX11_word_31 : decode cX11_word 31 = .ok (.ireturn, 1) := by decide +kernel
theorem dX11_word_32 : decode cX11_word 32 = .ok (.aload_n 0, 1) := by decide +kernel
theorem dX11_word_33 : decode cX11_word 33 = .ok (.getfield 55, 3) := by decide +kernel
theorem dX11_word_36 : decode cX11_word 36 = .ok (.iload_n 1, 1) := by decide +kernel
theorem dX11_word_37 : decode cX11_word 37 = .ok (.baload, 1) := by decide +kernel
theorem dX11_word_38 : decode cX11_word 38 = .ok (.ifCond .eq 7, 3) := by decide +kernel
theorem dX11_word_41 : decode cX11_word 41 = .ok (.iconst (-1), 1) := by decide +kernel
theorem dX11_word_42 : decode cX11_word 42 = .ok (.goto 21, 3) := by decide +kernel
theorem dX11_word_45 : decode cX11_word 45 = .ok (.aload_n 0, 1) := by decide +kernel
theorem dX11_word_46 : decode cX11_word 46 = .ok (.getfield 7, 3) := by decide +kernel
theorem dX11_word_49 : decode cX11_word 49 = .ok (.bipush 55, 2) := by decide +kernel
theorem dX11_word_51 : decode cX11_word 51 = .ok (.iload_n 1, 1) := by decide +kernel
theorem dX11_word_52 : decode cX11_word 52 = .ok (.imul, 1) := by decide +kernel
theorem dX11_word_53 : decode cX11_word 53 = .ok (.bipush 17, 2) := by decide +kernel
theorem dX11_word_55 : decode cX11_word 55 = .ok (.iadd, 1) := by decide +kernel
theorem dX11_word_56 : decode cX11_word 56 = .ok (.iconst 4, 1) := by decide +kernel
theorem dX11_word_57 : decode cX11_word 57 = .ok (.iload_n 2, 1) := by decide +kernel
theorem dX11_word_58 : decode cX11_word 58 = .ok (.imul, 1) := by decide +kernel
theorem dX11_word_59 : decode cX11_word 59 = .ok (.iadd, 1) := by decide +kernel
theorem dX11_word_60 : decode cX11_word 60 = .ok (.iload_n 3, 1) := by decide +kernel
theorem dX11_word_61 : decode cX11_word 61 = .ok (.iadd, 1) := by decide +kernel
theorem dX11_word_62 : decode cX11_word 62 = .ok (.iaload, 1) := by decide +kernel
theorem dX11_word_63 : decode cX11_word 63 = .ok (.ireturn, 1) := by decide +kernel
theorem dX11_pageOf_0 : decode cX11_pageOf 0 = .ok (.aload_n 0, 1) := by decide +kernel
theorem dX11_pageOf_1 : decode cX11_pageOf 1 = .ok (.aload_n 0, 1) := by decide +kernel
theorem dX11_pageOf_2 : decode cX11_pageOf 2 = .ok (.iload_n 1, 1) := by decide +kernel
theorem dX11_pageOf_3 : decode cX11_pageOf 3 = .ok (.iload_n 2, 1) := by decide +kernel
theorem dX11_pageOf_4 : decode cX11_pageOf 4 = .ok (.invokevirtual 253, 3) := by decide +kernel
theorem dX11_pageOf_7 : decode cX11_pageOf 7 = .ok (.ifCond .eq 7, 3) := by decide +kernel
theorem dX11_pageOf_10 : decode cX11_pageOf 10 = .ok (.iconst 0, 1) := by decide +kernel
theorem dX11_pageOf_11 : decode cX11_pageOf 11 = .ok (.goto 4, 3) := by decide +kernel
theorem dX11_pageOf_14 : decode cX11_pageOf 14 = .ok (.iconst 1, 1) := by decide +kernel
theorem dX11_pageOf_15 : decode cX11_pageOf 15 = .ok (.invokevirtual 192, 3) := by decide +kernel
theorem dX11_pageOf_18 : decode cX11_pageOf 18 = .ok (.ifCond .eq 7, 3) := by decide +kernel
theorem dX11_pageOf_21 : decode cX11_pageOf 21 = .ok (.iconst 0, 1) := by decide +kernel
theorem dX11_pageOf_22 : decode cX11_pageOf 22 = .ok (.goto 14, 3) := by decide +kernel
theorem dX11_pageOf_25 : decode cX11_pageOf 25 = .ok (.aload_n 0, 1) := by decide +kernel
theorem dX11_pageOf_26 : decode cX11_pageOf 26 = .ok (.getfield 83, 3) := by decide +kernel
theorem dX11_pageOf_29 : decode cX11_pageOf 29 = .ok (.bipush 8, 2) := by decide +kernel
theorem dX11_pageOf_31 : decode cX11_pageOf 31 = .ok (.iload_n 1, 1) := by decide +kernel
theorem dX11_pageOf_32 : decode cX11_pageOf 32 = .ok (.imul, 1) := by decide +kernel
theorem dX11_pageOf_33 : decode cX11_pageOf 33 = .ok (.iload_n 2, 1) := by decide +kernel
theorem dX11_pageOf_34 : decode cX11_pageOf 34 = .ok (.iadd, 1) := by decide +kernel
theorem dX11_pageOf_35 : decode cX11_pageOf 35 = .ok (.iaload, 1) := by decide +kernel
theorem dX11_pageOf_36 : decode cX11_pageOf 36 = .ok (.ireturn, 1) := by decide +kernel
theorem dX11_frameOf_0 : decode cX11_frameOf 0 = .ok (.aload_n 0, 1) := by decide +kernel
theorem dX11_frameOf_1 : decode cX11_frameOf 1 = .ok (.aload_n 0, 1) := by decide +kernel
theorem dX11_frameOf_2 : decode cX11_frameOf 2 = .ok (.iload_n 1, 1) := by decide +kernel
theorem dX11_frameOf_3 : decode cX11_frameOf 3 = .ok (.iload_n 2, 1) := by decide +kernel
theorem dX11_frameOf_4 : decode cX11_frameOf 4 = .ok (.invokevirtual 253, 3) := by decide +kernel
theorem dX11_frameOf_7 : decode cX11_frameOf 7 = .ok (.ifCond .eq 7, 3) := by decide +kernel
theorem dX11_frameOf_10 : decode cX11_frameOf 10 = .ok (.iconst 0, 1) := by decide +kernel
theorem dX11_frameOf_11 : decode cX11_frameOf 11 = .ok (.goto 4, 3) := by decide +kernel
theorem dX11_frameOf_14 : decode cX11_frameOf 14 = .ok (.iconst 1, 1) := by decide +kernel
theorem dX11_frameOf_15 : decode cX11_frameOf 15 = .ok (.invokevirtual 192, 3) := by decide +kernel
theorem dX11_frameOf_18 : decode cX11_frameOf 18 = .ok (.ifCond .eq 7, 3) := by decide +kernel
theorem dX11_frameOf_21 : decode cX11_frameOf 21 = .ok (.iconst 0, 1) := by decide +kernel
theorem dX11_frameOf_22 : decode cX11_frameOf 22 = .ok (.goto 14, 3) := by decide +kernel
theorem dX11_frameOf_25 : decode cX11_frameOf 25 = .ok (.aload_n 0, 1) := by decide +kernel
theorem dX11_frameOf_26 : decode cX11_frameOf 26 = .ok (.getfield 86, 3) := by decide +kernel
theorem dX11_frameOf_29 : decode cX11_frameOf 29 = .ok (.bipush 8, 2) := by decide +kernel
theorem dX11_frameOf_31 : decode cX11_frameOf 31 = .ok (.iload_n 1, 1) := by decide +kernel
theorem dX11_frameOf_32 : decode cX11_frameOf 32 = .ok (.imul, 1) := by decide +kernel
theorem dX11_frameOf_33 : decode cX11_frameOf 33 = .ok (.iload_n 2, 1) := by decide +kernel
theorem dX11_frameOf_34 : decode cX11_frameOf 34 = .ok (.iadd, 1) := by decide +kernel
theorem dX11_frameOf_35 : decode cX11_frameOf 35 = .ok (.iaload, 1) := by decide +kernel
theorem dX11_frameOf_36 : decode cX11_frameOf 36 = .ok (.ireturn, 1) := by decide +kernel
theorem dX11_used_0 : decode cX11_used 0 = .ok (.aload_n 0, 1) := by decide +kernel
theorem dX11_used_1 : decode cX11_used 1 = .ok (.iload_n 1, 1) := by decide +kernel
theorem dX11_used_2 : decode cX11_used 2 = .ok (.iconst 0, 1) := by decide +kernel
theorem dX11_used_3 : decode cX11_used 3 = .ok (.iconst 1, 1) := by decide +kernel
theorem dX11_used_4 : decode cX11_used 4 = .ok (.invokestatic 132, 3) := by decide +kernel
theorem dX11_used_7 : decode cX11_used 7 = .ok (.ifCond .eq 7, 3) := by decide +kernel
theorem dX11_used_10 : decode cX11_used 10 = .ok (.iconst 0, 1) := by decide +kernel
theorem dX11_used_11 : decode cX11_used 11 = .ok (.goto 4, 3) := by decide +kernel
theorem dX11_used_14 : decode cX11_used 14 = .ok (.iconst 1, 1) := by decide +kernel
theorem dX11_used_15 : decode cX11_used 15 = .ok (.invokevirtual 192, 3) := by decide +kernel
theorem dX11_used_18 : decode cX11_used 18 = .ok (.ifCond .eq 5, 3) := by decide +kernel
theorem dX11_used_21 : decode cX11_used 21 = .ok (.iconst 0, 1) := by decide +kernel
theorem dX11_used_22 : decode cX11_used 22 = .ok (.ireturn, 1) := by decide +kernel
theorem dX11_used_23 : decode cX11_used 23 = .ok (.iconst 0, 1) := by decide +kernel
theorem dX11_used_24 : decode cX11_used 24 = .ok (.istore_n 2, 1) := by decide +kernel
theorem dX11_used_25 : decode cX11_used 25 = .ok (.iconst 0, 1) := by decide +kernel
theorem dX11_used_26 : decode cX11_used 26 = .ok (.istore_n 3, 1) := by decide +kernel
theorem dX11_used_27 : decode cX11_used 27 = .ok (.iload_n 3, 1) := by decide +kernel
theorem dX11_used_28 : decode cX11_used 28 = .ok (.bipush 16, 2) := by decide +kernel
theorem dX11_used_30 : decode cX11_used 30 = .ok (.if_icmp .ge 27, 3) := by decide +kernel
theorem dX11_used_33 : decode cX11_used 33 = .ok (.iload_n 2, 1) := by decide +kernel
theorem dX11_used_34 : decode cX11_used 34 = .ok (.aload_n 0, 1) := by decide +kernel
theorem dX11_used_35 : decode cX11_used 35 = .ok (.iload_n 1, 1) := by decide +kernel
theorem dX11_used_36 : decode cX11_used 36 = .ok (.iload_n 3, 1) := by decide +kernel
theorem dX11_used_37 : decode cX11_used 37 = .ok (.invokevirtual 143, 3) := by decide +kernel
theorem dX11_used_40 : decode cX11_used 40 = .ok (.iconst (-1), 1) := by decide +kernel
theorem dX11_used_41 : decode cX11_used 41 = .ok (.if_icmp .ne 7, 3) := by decide +kernel
theorem dX11_used_44 : decode cX11_used 44 = .ok (.iconst 0, 1) := by decide +kernel
theorem dX11_used_45 : decode cX11_used 45 = .ok (.goto 4, 3) := by decide +kernel
theorem dX11_used_48 : decode cX11_used 48 = .ok (.iconst 1, 1) := by decide +kernel
theorem dX11_used_49 : decode cX11_used 49 = .ok (.iadd, 1) := by decide +kernel
theorem dX11_used_50 : decode cX11_used 50 = .ok (.istore_n 2, 1) := by decide +kernel
theorem dX11_used_51 : decode cX11_used 51 = .ok (.iinc 3 1, 3) := by decide +kernel
theorem dX11_used_54 : decode cX11_used 54 = .ok (.goto (-27), 3) := by decide +kernel
theorem dX11_used_57 : decode cX11_used 57 = .ok (.iload_n 2, 1) := by decide +kernel
theorem dX11_used_58 : decode cX11_used 58 = .ok (.ireturn, 1) := by decide +kernel
theorem dX11_exits_0 : decode cX11_exits 0 = .ok (.aload_n 0, 1) := by decide +kernel
theorem dX11_exits_1 : decode cX11_exits 1 = .ok (.aload_n 0, 1) := by decide +kernel
theorem dX11_exits_2 : decode cX11_exits 2 = .ok (.iload_n 1, 1) := by decide +kernel
theorem dX11_exits_3 : decode cX11_exits 3 = .ok (.invokevirtual 202, 3) := by decide +kernel
theorem dX11_exits_6 : decode cX11_exits 6 = .ok (.ifCond .ne 7, 3) := by decide +kernel
theorem dX11_exits_9 : decode cX11_exits 9 = .ok (.iconst 1, 1) := by decide +kernel
theorem dX11_exits_10 : decode cX11_exits 10 = .ok (.goto 17, 3) := by decide +kernel
theorem dX11_exits_13 : decode cX11_exits 13 = .ok (.iload_n 2, 1) := by decide +kernel
theorem dX11_exits_14 : decode cX11_exits 14 = .ok (.iconst 0, 1) := by decide +kernel
theorem dX11_exits_15 : decode cX11_exits 15 = .ok (.iconst 5, 1) := by decide +kernel
theorem dX11_exits_16 : decode cX11_exits 16 = .ok (.invokestatic 132, 3) := by decide +kernel
theorem dX11_exits_19 : decode cX11_exits 19 = .ok (.ifCond .ne 7, 3) := by decide +kernel
theorem dX11_exits_22 : decode cX11_exits 22 = .ok (.iconst 2, 1) := by decide +kernel
theorem dX11_exits_23 : decode cX11_exits 23 = .ok (.goto 4, 3) := by decide +kernel
theorem dX11_exits_26 : decode cX11_exits 26 = .ok (.iconst 0, 1) := by decide +kernel
theorem dX11_exits_27 : decode cX11_exits 27 = .ok (.invokevirtual 192, 3) := by decide +kernel
theorem dX11_exits_30 : decode cX11_exits 30 = .ok (.ifCond .eq 7, 3) := by decide +kernel
theorem dX11_exits_33 : decode cX11_exits 33 = .ok (.iconst 0, 1) := by decide +kernel
theorem dX11_exits_34 : decode cX11_exits 34 = .ok (.goto 14, 3) := by decide +kernel
theorem dX11_exits_37 : decode cX11_exits 37 = .ok (.aload_n 0, 1) := by decide +kernel
theorem dX11_exits_38 : decode cX11_exits 38 = .ok (.getfield 80, 3) := by decide +kernel
theorem dX11_exits_41 : decode cX11_exits 41 = .ok (.bipush 6, 2) := by decide +kernel
theorem dX11_exits_43 : decode cX11_exits 43 = .ok (.iload_n 1, 1) := by decide +kernel
theorem dX11_exits_44 : decode cX11_exits 44 = .ok (.imul, 1) := by decide +kernel
theorem dX11_exits_45 : decode cX11_exits 45 = .ok (.iload_n 2, 1) := by decide +kernel
theorem dX11_exits_46 : decode cX11_exits 46 = .ok (.iadd, 1) := by decide +kernel
theorem dX11_exits_47 : decode cX11_exits 47 = .ok (.iaload, 1) := by decide +kernel
theorem dX11_exits_48 : decode cX11_exits 48 = .ok (.ireturn, 1) := by decide +kernel
theorem dX11_out_0 : decode cX11_out 0 = .ok (.aload_n 0, 1) := by decide +kernel
theorem dX11_out_1 : decode cX11_out 1 = .ok (.aload_n 0, 1) := by decide +kernel
theorem dX11_out_2 : decode cX11_out 2 = .ok (.iload_n 1, 1) := by decide +kernel
theorem dX11_out_3 : decode cX11_out 3 = .ok (.invokevirtual 202, 3) := by decide +kernel
theorem dX11_out_6 : decode cX11_out 6 = .ok (.ifCond .eq 7, 3) := by decide +kernel
theorem dX11_out_9 : decode cX11_out 9 = .ok (.iconst 0, 1) := by decide +kernel
theorem dX11_out_10 : decode cX11_out 10 = .ok (.goto 4, 3) := by decide +kernel
theorem dX11_out_13 : decode cX11_out 13 = .ok (.iconst 1, 1) := by decide +kernel
theorem dX11_out_14 : decode cX11_out 14 = .ok (.invokevirtual 192, 3) := by decide +kernel
theorem dX11_out_17 : decode cX11_out 17 = .ok (.ifCond .eq 7, 3) := by decide +kernel
theorem dX11_out_20 : decode cX11_out 20 = .ok (.iconst 0, 1) := by decide +kernel
theorem dX11_out_21 : decode cX11_out 21 = .ok (.goto 9, 3) := by decide +kernel
theorem dX11_out_24 : decode cX11_out 24 = .ok (.aload_n 0, 1) := by decide +kernel
theorem dX11_out_25 : decode cX11_out 25 = .ok (.getfield 107, 3) := by decide +kernel
theorem dX11_out_28 : decode cX11_out 28 = .ok (.iload_n 1, 1) := by decide +kernel
theorem dX11_out_29 : decode cX11_out 29 = .ok (.iaload, 1) := by decide +kernel
theorem dX11_out_30 : decode cX11_out 30 = .ok (.ireturn, 1) := by decide +kernel
theorem dX11_outAt_0 : decode cX11_outAt 0 = .ok (.aload_n 0, 1) := by decide +kernel
theorem dX11_outAt_1 : decode cX11_outAt 1 = .ok (.aload_n 0, 1) := by decide +kernel
theorem dX11_outAt_2 : decode cX11_outAt 2 = .ok (.iload_n 1, 1) := by decide +kernel
theorem dX11_outAt_3 : decode cX11_outAt 3 = .ok (.invokevirtual 202, 3) := by decide +kernel
theorem dX11_outAt_6 : decode cX11_outAt 6 = .ok (.ifCond .eq 23, 3) := by decide +kernel
theorem dX11_outAt_9 : decode cX11_outAt 9 = .ok (.iload_n 2, 1) := by decide +kernel
theorem dX11_outAt_10 : decode cX11_outAt 10 = .ok (.iconst 0, 1) := by decide +kernel
theorem dX11_outAt_11 : decode cX11_outAt 11 = .ok (.aload_n 0, 1) := by decide +kernel
theorem dX11_outAt_12 : decode cX11_outAt 12 = .ok (.getfield 107, 3) := by decide +kernel
theorem dX11_outAt_15 : decode cX11_outAt 15 = .ok (.iload_n 1, 1) := by decide +kernel
theorem dX11_outAt_16 : decode cX11_outAt 16 = .ok (.iaload, 1) := by decide +kernel
theorem dX11_outAt_17 : decode cX11_outAt 17 = .ok (.iconst 1, 1) := by decide +kernel
theorem dX11_outAt_18 : decode cX11_outAt 18 = .ok (.isub, 1) := by decide +kernel
theorem dX11_outAt_19 : decode cX11_outAt 19 = .ok (.invokestatic 132, 3) := by decide +kernel
theorem dX11_outAt_22 : decode cX11_outAt 22 = .ok (.ifCond .eq 7, 3) := by decide +kernel
theorem dX11_outAt_25 : decode cX11_outAt 25 = .ok (.iconst 0, 1) := by decide +kernel
theorem dX11_outAt_26 : decode cX11_outAt 26 = .ok (.goto 4, 3) := by decide +kernel
theorem dX11_outAt_29 : decode cX11_outAt 29 = .ok (.iconst 1, 1) := by decide +kernel
theorem dX11_outAt_30 : decode cX11_outAt 30 = .ok (.invokevirtual 192, 3) := by decide +kernel
theorem dX11_outAt_33 : decode cX11_outAt 33 = .ok (.ifCond .eq 7, 3) := by decide +kernel
theorem dX11_outAt_36 : decode cX11_outAt 36 = .ok (.iconst 0, 1) := by decide +kernel
theorem dX11_outAt_37 : decode cX11_outAt 37 = .ok (.goto 15, 3) := by decide +kernel
theorem dX11_outAt_40 : decode cX11_outAt 40 = .ok (.aload_n 0, 1) := by decide +kernel
theorem dX11_outAt_41 : decode cX11_outAt 41 = .ok (.getfield 104, 3) := by decide +kernel
theorem dX11_outAt_44 : decode cX11_outAt 44 = .ok (.sipush 3000, 3) := by decide +kernel
theorem dX11_outAt_47 : decode cX11_outAt 47 = .ok (.iload_n 1, 1) := by decide +kernel
theorem dX11_outAt_48 : decode cX11_outAt 48 = .ok (.imul, 1) := by decide +kernel
theorem dX11_outAt_49 : decode cX11_outAt 49 = .ok (.iload_n 2, 1) := by decide +kernel
theorem dX11_outAt_50 : decode cX11_outAt 50 = .ok (.iadd, 1) := by decide +kernel
theorem dX11_outAt_51 : decode cX11_outAt 51 = .ok (.iaload, 1) := by decide +kernel
theorem dX11_outAt_52 : decode cX11_outAt 52 = .ok (.ireturn, 1) := by decide +kernel
theorem dX11_held_0 : decode cX11_held 0 = .ok (.aload_n 0, 1) := by decide +kernel
theorem dX11_held_1 : decode cX11_held 1 = .ok (.aload_n 0, 1) := by decide +kernel
theorem dX11_held_2 : decode cX11_held 2 = .ok (.iload_n 1, 1) := by decide +kernel
theorem dX11_held_3 : decode cX11_held 3 = .ok (.invokevirtual 202, 3) := by decide +kernel
theorem dX11_held_6 : decode cX11_held 6 = .ok (.ifCond .eq 7, 3) := by decide +kernel
theorem dX11_held_9 : decode cX11_held 9 = .ok (.iconst 0, 1) := by decide +kernel
theorem dX11_held_10 : decode cX11_held 10 = .ok (.goto 4, 3) := by decide +kernel
theorem dX11_held_13 : decode cX11_held 13 = .ok (.iconst 1, 1) := by decide +kernel
theorem dX11_held_14 : decode cX11_held 14 = .ok (.invokevirtual 192, 3) := by decide +kernel
theorem dX11_held_17 : decode cX11_held 17 = .ok (.ifCond .eq 7, 3) := by decide +kernel
theorem dX11_held_20 : decode cX11_held 20 = .ok (.iconst 0, 1) := by decide +kernel
theorem dX11_held_21 : decode cX11_held 21 = .ok (.goto 9, 3) := by decide +kernel
theorem dX11_held_24 : decode cX11_held 24 = .ok (.aload_n 0, 1) := by decide +kernel
theorem dX11_held_25 : decode cX11_held 25 = .ok (.getfield 113, 3) := by decide +kernel
theorem dX11_held_28 : decode cX11_held 28 = .ok (.iload_n 1, 1) := by decide +kernel
theorem dX11_held_29 : decode cX11_held 29 = .ok (.iaload, 1) := by decide +kernel
theorem dX11_held_30 : decode cX11_held 30 = .ok (.ireturn, 1) := by decide +kernel
theorem dX11_stored_0 : decode cX11_stored 0 = .ok (.aload_n 0, 1) := by decide +kernel
theorem dX11_stored_1 : decode cX11_stored 1 = .ok (.iload_n 1, 1) := by decide +kernel
theorem dX11_stored_2 : decode cX11_stored 2 = .ok (.iconst 0, 1) := by decide +kernel
theorem dX11_stored_3 : decode cX11_stored 3 = .ok (.aload_n 0, 1) := by decide +kernel
theorem dX11_stored_4 : decode cX11_stored 4 = .ok (.getfield 227, 3) := by decide +kernel
theorem dX11_stored_7 : decode cX11_stored 7 = .ok (.iconst 1, 1) := by decide +kernel
theorem dX11_stored_8 : decode cX11_stored 8 = .ok (.isub, 1) := by decide +kernel
theorem dX11_stored_9 : decode cX11_stored 9 = .ok (.invokestatic 132, 3) := by decide +kernel
theorem dX11_stored_12 : decode cX11_stored 12 = .ok (.ifCond .eq 7, 3) := by decide +kernel
theorem dX11_stored_15 : decode cX11_stored 15 = .ok (.iconst 0, 1) := by decide +kernel
theorem dX11_stored_16 : decode cX11_stored 16 = .ok (.goto 4, 3) := by decide +kernel
theorem dX11_stored_19 : decode cX11_stored 19 = .ok (.iconst 1, 1) := by decide +kernel
theorem dX11_stored_20 : decode cX11_stored 20 = .ok (.invokevirtual 192, 3) := by decide +kernel
theorem dX11_stored_23 : decode cX11_stored 23 = .ok (.ifCond .eq 7, 3) := by decide +kernel
theorem dX11_stored_26 : decode cX11_stored 26 = .ok (.iconst 0, 1) := by decide +kernel
theorem dX11_stored_27 : decode cX11_stored 27 = .ok (.goto 9, 3) := by decide +kernel
theorem dX11_stored_30 : decode cX11_stored 30 = .ok (.aload_n 0, 1) := by decide +kernel
theorem dX11_stored_31 : decode cX11_stored 31 = .ok (.getfield 37, 3) := by decide +kernel
theorem dX11_stored_34 : decode cX11_stored 34 = .ok (.iload_n 1, 1) := by decide +kernel
theorem dX11_stored_35 : decode cX11_stored 35 = .ok (.iaload, 1) := by decide +kernel
theorem dX11_stored_36 : decode cX11_stored 36 = .ok (.ireturn, 1) := by decide +kernel
theorem dX11_isAsPlain_0 : decode cX11_isAsPlain 0 = .ok (.aload_n 0, 1) := by decide +kernel
theorem dX11_isAsPlain_1 : decode cX11_isAsPlain 1 = .ok (.aload_n 0, 1) := by decide +kernel
theorem dX11_isAsPlain_2 : decode cX11_isAsPlain 2 = .ok (.iload_n 1, 1) := by decide +kernel
theorem dX11_isAsPlain_3 : decode cX11_isAsPlain 3 = .ok (.invokevirtual 202, 3) := by decide +kernel
theorem dX11_isAsPlain_6 : decode cX11_isAsPlain 6 = .ok (.ifCond .eq 7, 3) := by decide +kernel
theorem dX11_isAsPlain_9 : decode cX11_isAsPlain 9 = .ok (.iconst 0, 1) := by decide +kernel
theorem dX11_isAsPlain_10 : decode cX11_isAsPlain 10 = .ok (.goto 4, 3) := by decide +kernel
theorem dX11_isAsPlain_13 : decode cX11_isAsPlain 13 = .ok (.iconst 1, 1) := by decide +kernel
theorem dX11_isAsPlain_14 : decode cX11_isAsPlain 14 = .ok (.invokevirtual 192, 3) := by decide +kernel
theorem dX11_isAsPlain_17 : decode cX11_isAsPlain 17 = .ok (.ifCond .ne 7, 3) := by decide +kernel
theorem dX11_isAsPlain_20 : decode cX11_isAsPlain 20 = .ok (.iconst 1, 1) := by decide +kernel
theorem dX11_isAsPlain_21 : decode cX11_isAsPlain 21 = .ok (.goto 4, 3) := by decide +kernel
theorem dX11_isAsPlain_24 : decode cX11_isAsPlain 24 = .ok (.iconst 0, 1) := by decide +kernel
theorem dX11_isAsPlain_25 : decode cX11_isAsPlain 25 = .ok (.ireturn, 1) := by decide +kernel
