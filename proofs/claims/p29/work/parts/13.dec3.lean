theorem dL_backs_185 : decode cL_backs 185 = .ok (.iconst 0, 1) := by decide +kernel
theorem dL_backs_186 : decode cL_backs 186 = .ok (.iload 4, 2) := by decide +kernel
theorem dL_backs_188 : decode cL_backs 188 = .ok (.ifCond .ne 7, 3) := by decide +kernel
theorem dL_backs_191 : decode cL_backs 191 = .ok (.iconst 1, 1) := by decide +kernel
theorem dL_backs_192 : decode cL_backs 192 = .ok (.goto 4, 3) := by decide +kernel
theorem dL_backs_195 : decode cL_backs 195 = .ok (.iconst 0, 1) := by decide +kernel
theorem dL_backs_196 : decode cL_backs 196 = .ok (.if_icmp .ne 7, 3) := by decide +kernel
theorem dL_backs_199 : decode cL_backs 199 = .ok (.iconst 1, 1) := by decide +kernel
theorem dL_backs_200 : decode cL_backs 200 = .ok (.goto 4, 3) := by decide +kernel
theorem dL_backs_203 : decode cL_backs 203 = .ok (.iconst 0, 1) := by decide +kernel
theorem dL_backs_204 : decode cL_backs 204 = .ok (.istore 9, 2) := by decide +kernel
theorem dL_backs_206 : decode cL_backs 206 = .ok (.iload 9, 2) := by decide +kernel
theorem dL_backs_208 : decode cL_backs 208 = .ok (.ifCond .eq 103, 3) := by decide +kernel
theorem dL_backs_211 : decode cL_backs 211 = .ok (.aload_n 0, 1) := by decide +kernel
theorem dL_backs_212 : decode cL_backs 212 = .ok (.iconst 0, 1) := by decide +kernel
theorem dL_backs_213 : decode cL_backs 213 = .ok (.invokevirtual 48, 3) := by decide +kernel
theorem dL_backs_216 : decode cL_backs 216 = .ok (.iload 4, 2) := by decide +kernel
theorem dL_backs_218 : decode cL_backs 218 = .ok (.if_icmp .ne 93, 3) := by decide +kernel
theorem dL_backs_221 : decode cL_backs 221 = .ok (.aload_n 0, 1) := by decide +kernel
theorem dL_backs_222 : decode cL_backs 222 = .ok (.iconst 3, 1) := by decide +kernel
theorem dL_backs_223 : decode cL_backs 223 = .ok (.invokevirtual 48, 3) := by decide +kernel
theorem dL_backs_226 : decode cL_backs 226 = .ok (.bipush 20, 2) := by decide +kernel
theorem dL_backs_228 : decode cL_backs 228 = .ok (.iload 4, 2) := by decide +kernel
theorem dL_backs_230 : decode cL_backs 230 = .ok (.imul, 1) := by decide +kernel
theorem dL_backs_231 : decode cL_backs 231 = .ok (.iconst 2, 1) := by decide +kernel
theorem dL_backs_232 : decode cL_backs 232 = .ok (.iload_n 3, 1) := by decide +kernel
theorem dL_backs_233 : decode cL_backs 233 = .ok (.imul, 1) := by decide +kernel
theorem dL_backs_234 : decode cL_backs 234 = .ok (.iload 8, 2) := by decide +kernel
theorem dL_backs_236 : decode cL_backs 236 = .ok (.imul, 1) := by decide +kernel
theorem dL_backs_237 : decode cL_backs 237 = .ok (.iadd, 1) := by decide +kernel
theorem dL_backs_238 : decode cL_backs 238 = .ok (.if_icmp .ne 73, 3) := by decide +kernel
theorem dL_backs_241 : decode cL_backs 241 = .ok (.aload_n 0, 1) := by decide +kernel
theorem dL_backs_242 : decode cL_backs 242 = .ok (.iconst 4, 1) := by decide +kernel
theorem dL_backs_243 : decode cL_backs 243 = .ok (.invokevirtual 48, 3) := by decide +kernel
theorem dL_backs_246 : decode cL_backs 246 = .ok (.iload 5, 2) := by decide +kernel
theorem dL_backs_248 : decode cL_backs 248 = .ok (.if_icmp .ne 63, 3) := by decide +kernel
theorem dL_backs_251 : decode cL_backs 251 = .ok (.aload_n 0, 1) := by decide +kernel
theorem dL_backs_252 : decode cL_backs 252 = .ok (.iconst 5, 1) := by decide +kernel
theorem dL_backs_253 : decode cL_backs 253 = .ok (.invokevirtual 48, 3) := by decide +kernel
theorem dL_backs_256 : decode cL_backs 256 = .ok (.bipush (-2), 2) := by decide +kernel
theorem dL_backs_258 : decode cL_backs 258 = .ok (.if_icmp .ne 53, 3) := by decide +kernel
theorem dL_backs_261 : decode cL_backs 261 = .ok (.aload_n 0, 1) := by decide +kernel
theorem dL_backs_262 : decode cL_backs 262 = .ok (.iload_n 1, 1) := by decide +kernel
theorem dL_backs_263 : decode cL_backs 263 = .ok (.iconst 1, 1) := by decide +kernel
theorem dL_backs_264 : decode cL_backs 264 = .ok (.iadd, 1) := by decide +kernel
theorem dL_backs_265 : decode cL_backs 265 = .ok (.iconst 0, 1) := by decide +kernel
theorem dL_backs_266 : decode cL_backs 266 = .ok (.iconst 1, 1) := by decide +kernel
theorem dL_backs_267 : decode cL_backs 267 = .ok (.invokevirtual 41, 3) := by decide +kernel
theorem dL_backs_270 : decode cL_backs 270 = .ok (.iconst (-1), 1) := by decide +kernel
theorem dL_backs_271 : decode cL_backs 271 = .ok (.if_icmp .ne 40, 3) := by decide +kernel
theorem dL_backs_274 : decode cL_backs 274 = .ok (.aload_n 0, 1) := by decide +kernel
theorem dL_backs_275 : decode cL_backs 275 = .ok (.iconst 0, 1) := by decide +kernel
theorem dL_backs_276 : decode cL_backs 276 = .ok (.iload_n 2, 1) := by decide +kernel
theorem dL_backs_277 : decode cL_backs 277 = .ok (.iconst 1, 1) := by decide +kernel
theorem dL_backs_278 : decode cL_backs 278 = .ok (.invokevirtual 41, 3) := by decide +kernel
theorem dL_backs_281 : decode cL_backs 281 = .ok (.iconst (-1), 1) := by decide +kernel
theorem dL_backs_282 : decode cL_backs 282 = .ok (.if_icmp .ne 29, 3) := by decide +kernel
theorem dL_backs_285 : decode cL_backs 285 = .ok (.aload_n 0, 1) := by decide +kernel
theorem dL_backs_286 : decode cL_backs 286 = .ok (.iload_n 1, 1) := by decide +kernel
theorem dL_backs_287 : decode cL_backs 287 = .ok (.iconst 0, 1) := by decide +kernel
theorem dL_backs_288 : decode cL_backs 288 = .ok (.iconst 0, 1) := by decide +kernel
theorem dL_backs_289 : decode cL_backs 289 = .ok (.invokevirtual 41, 3) := by decide +kernel
theorem dL_backs_292 : decode cL_backs 292 = .ok (.iconst (-1), 1) := by decide +kernel
theorem dL_backs_293 : decode cL_backs 293 = .ok (.if_icmp .ne 18, 3) := by decide +kernel
theorem dL_backs_296 : decode cL_backs 296 = .ok (.aload_n 0, 1) := by decide +kernel
theorem dL_backs_297 : decode cL_backs 297 = .ok (.iconst 0, 1) := by decide +kernel
theorem dL_backs_298 : decode cL_backs 298 = .ok (.iconst (-1), 1) := by decide +kernel
theorem dL_backs_299 : decode cL_backs 299 = .ok (.iconst 0, 1) := by decide +kernel
theorem dL_backs_300 : decode cL_backs 300 = .ok (.invokevirtual 41, 3) := by decide +kernel
theorem dL_backs_303 : decode cL_backs 303 = .ok (.iconst (-1), 1) := by decide +kernel
theorem dL_backs_304 : decode cL_backs 304 = .ok (.if_icmp .ne 7, 3) := by decide +kernel
theorem dL_backs_307 : decode cL_backs 307 = .ok (.iconst 1, 1) := by decide +kernel
theorem dL_backs_308 : decode cL_backs 308 = .ok (.goto 4, 3) := by decide +kernel
theorem dL_backs_311 : decode cL_backs 311 = .ok (.iconst 0, 1) := by decide +kernel
theorem dL_backs_312 : decode cL_backs 312 = .ok (.ireturn, 1) := by decide +kernel
theorem dL_outlines_0 : decode cL_outlines 0 = .ok (.aload_n 0, 1) := by decide +kernel
theorem dL_outlines_1 : decode cL_outlines 1 = .ok (.invokevirtual 51, 3) := by decide +kernel
theorem dL_outlines_4 : decode cL_outlines 4 = .ok (.istore 4, 2) := by decide +kernel
theorem dL_outlines_6 : decode cL_outlines 6 = .ok (.iload 4, 2) := by decide +kernel
theorem dL_outlines_8 : decode cL_outlines 8 = .ok (.ifCond .lt 18, 3) := by decide +kernel
theorem dL_outlines_11 : decode cL_outlines 11 = .ok (.aload_n 0, 1) := by decide +kernel
theorem dL_outlines_12 : decode cL_outlines 12 = .ok (.iconst 0, 1) := by decide +kernel
theorem dL_outlines_13 : decode cL_outlines 13 = .ok (.invokevirtual 48, 3) := by decide +kernel
theorem dL_outlines_16 : decode cL_outlines 16 = .ok (.ifCond .ne 10, 3) := by decide +kernel
theorem dL_outlines_19 : decode cL_outlines 19 = .ok (.aload_n 0, 1) := by decide +kernel
theorem dL_outlines_20 : decode cL_outlines 20 = .ok (.invokevirtual 51, 3) := by decide +kernel
theorem dL_outlines_23 : decode cL_outlines 23 = .ok (.ifCond .eq 5, 3) := by decide +kernel
theorem dL_outlines_26 : decode cL_outlines 26 = .ok (.iconst 0, 1) := by decide +kernel
theorem dL_outlines_27 : decode cL_outlines 27 = .ok (.ireturn, 1) := by decide +kernel
theorem dL_outlines_28 : decode cL_outlines 28 = .ok (.aload_n 0, 1) := by decide +kernel
theorem dL_outlines_29 : decode cL_outlines 29 = .ok (.iload_n 3, 1) := by decide +kernel
theorem dL_outlines_30 : decode cL_outlines 30 = .ok (.invokevirtual 55, 3) := by decide +kernel
theorem dL_outlines_33 : decode cL_outlines 33 = .ok (.istore 5, 2) := by decide +kernel
theorem dL_outlines_35 : decode cL_outlines 35 = .ok (.iconst 0, 1) := by decide +kernel
theorem dL_outlines_36 : decode cL_outlines 36 = .ok (.istore 6, 2) := by decide +kernel
theorem dL_outlines_38 : decode cL_outlines 38 = .ok (.iload 6, 2) := by decide +kernel
theorem dL_outlines_40 : decode cL_outlines 40 = .ok (.iload_n 2, 1) := by decide +kernel
theorem dL_outlines_41 : decode cL_outlines 41 = .ok (.if_icmp .gt 160, 3) := by decide +kernel
theorem dL_outlines_44 : decode cL_outlines 44 = .ok (.iconst 0, 1) := by decide +kernel
theorem dL_outlines_45 : decode cL_outlines 45 = .ok (.istore 7, 2) := by decide +kernel
theorem dL_outlines_47 : decode cL_outlines 47 = .ok (.iload 7, 2) := by decide +kernel
theorem dL_outlines_49 : decode cL_outlines 49 = .ok (.iload_n 1, 1) := by decide +kernel
theorem dL_outlines_50 : decode cL_outlines 50 = .ok (.if_icmp .gt 145, 3) := by decide +kernel
theorem dL_outlines_53 : decode cL_outlines 53 = .ok (.aload_n 0, 1) := by decide +kernel
theorem dL_outlines_54 : decode cL_outlines 54 = .ok (.iload 7, 2) := by decide +kernel
theorem dL_outlines_56 : decode cL_outlines 56 = .ok (.iload 6, 2) := by decide +kernel
theorem dL_outlines_58 : decode cL_outlines 58 = .ok (.invokevirtual 15, 3) := by decide +kernel
theorem dL_outlines_61 : decode cL_outlines 61 = .ok (.iload_n 3, 1) := by decide +kernel
theorem dL_outlines_62 : decode cL_outlines 62 = .ok (.if_icmp .ne 7, 3) := by decide +kernel
theorem dL_outlines_65 : decode cL_outlines 65 = .ok (.iconst 1, 1) := by decide +kernel
theorem dL_outlines_66 : decode cL_outlines 66 = .ok (.goto 4, 3) := by decide +kernel
theorem dL_outlines_69 : decode cL_outlines 69 = .ok (.iconst 0, 1) := by decide +kernel
theorem dL_outlines_70 : decode cL_outlines 70 = .ok (.istore 8, 2) := by decide +kernel
theorem dL_outlines_72 : decode cL_outlines 72 = .ok (.aload_n 0, 1) := by decide +kernel
theorem dL_outlines_73 : decode cL_outlines 73 = .ok (.iload 7, 2) := by decide +kernel
theorem dL_outlines_75 : decode cL_outlines 75 = .ok (.iload 6, 2) := by decide +kernel
theorem dL_outlines_77 : decode cL_outlines 77 = .ok (.iconst 1, 1) := by decide +kernel
theorem dL_outlines_78 : decode cL_outlines 78 = .ok (.invokevirtual 41, 3) := by decide +kernel
theorem dL_outlines_81 : decode cL_outlines 81 = .ok (.iload 6, 2) := by decide +kernel
theorem dL_outlines_83 : decode cL_outlines 83 = .ok (.iload_n 2, 1) := by decide +kernel
theorem dL_outlines_84 : decode cL_outlines 84 = .ok (.if_icmp .ne 7, 3) := by decide +kernel
theorem dL_outlines_87 : decode cL_outlines 87 = .ok (.iconst (-1), 1) := by decide +kernel
theorem dL_outlines_88 : decode cL_outlines 88 = .ok (.goto 32, 3) := by decide +kernel
theorem dL_outlines_91 : decode cL_outlines 91 = .ok (.iload 8, 2) := by decide +kernel
theorem dL_outlines_93 : decode cL_outlines 93 = .ok (.aload_n 0, 1) := by decide +kernel
theorem dL_outlines_94 : decode cL_outlines 94 = .ok (.iload 7, 2) := by decide +kernel
theorem dL_outlines_96 : decode cL_outlines 96 = .ok (.iconst 1, 1) := by decide +kernel
theorem dL_outlines_97 : decode cL_outlines 97 = .ok (.isub, 1) := by decide +kernel
theorem dL_outlines_98 : decode cL_outlines 98 = .ok (.iload 6, 2) := by decide +kernel
theorem dL_outlines_100 : decode cL_outlines 100 = .ok (.invokevirtual 15, 3) := by decide +kernel
theorem dL_outlines_103 : decode cL_outlines 103 = .ok (.iload_n 3, 1) := by decide +kernel
theorem dL_outlines_104 : decode cL_outlines 104 = .ok (.if_icmp .ne 7, 3) := by decide +kernel
theorem dL_outlines_107 : decode cL_outlines 107 = .ok (.iconst 1, 1) := by decide +kernel
theorem dL_outlines_108 : decode cL_outlines 108 = .ok (.goto 4, 3) := by decide +kernel
theorem dL_outlines_111 : decode cL_outlines 111 = .ok (.iconst 0, 1) := by decide +kernel
theorem dL_outlines_112 : decode cL_outlines 112 = .ok (.if_icmp .eq 7, 3) := by decide +kernel
theorem dL_outlines_115 : decode cL_outlines 115 = .ok (.iconst 1, 1) := by decide +kernel
theorem dL_outlines_116 : decode cL_outlines 116 = .ok (.goto 4, 3) := by decide +kernel
theorem dL_outlines_119 : decode cL_outlines 119 = .ok (.iconst 0, 1) := by decide +kernel
theorem dL_outlines_120 : decode cL_outlines 120 = .ok (.if_icmp .ne 67, 3) := by decide +kernel
theorem dL_outlines_123 : decode cL_outlines 123 = .ok (.aload_n 0, 1) := by decide +kernel
theorem dL_outlines_124 : decode cL_outlines 124 = .ok (.iload 7, 2) := by decide +kernel
theorem dL_outlines_126 : decode cL_outlines 126 = .ok (.iload 6, 2) := by decide +kernel
theorem dL_outlines_128 : decode cL_outlines 128 = .ok (.iconst 0, 1) := by decide +kernel
theorem dL_outlines_129 : decode cL_outlines 129 = .ok (.invokevirtual 41, 3) := by decide +kernel
theorem dL_outlines_132 : decode cL_outlines 132 = .ok (.iload 7, 2) := by decide +kernel
theorem dL_outlines_134 : decode cL_outlines 134 = .ok (.iload_n 1, 1) := by decide +kernel
theorem dL_outlines_135 : decode cL_outlines 135 = .ok (.if_icmp .ne 7, 3) := by decide +kernel
theorem dL_outlines_138 : decode cL_outlines 138 = .ok (.iconst (-1), 1) := by decide +kernel
theorem dL_outlines_139 : decode cL_outlines 139 = .ok (.goto 32, 3) := by decide +kernel
theorem dL_outlines_142 : decode cL_outlines 142 = .ok (.iload 8, 2) := by decide +kernel
theorem dL_outlines_144 : decode cL_outlines 144 = .ok (.aload_n 0, 1) := by decide +kernel
theorem dL_outlines_145 : decode cL_outlines 145 = .ok (.iload 7, 2) := by decide +kernel
theorem dL_outlines_147 : decode cL_outlines 147 = .ok (.iload 6, 2) := by decide +kernel
theorem dL_outlines_149 : decode cL_outlines 149 = .ok (.iconst 1, 1) := by decide +kernel
theorem dL_outlines_150 : decode cL_outlines 150 = .ok (.isub, 1) := by decide +kernel
theorem dL_outlines_151 : decode cL_outlines 151 = .ok (.invokevirtual 15, 3) := by decide +kernel
theorem dL_outlines_154 : decode cL_outlines 154 = .ok (.iload_n 3, 1) := by decide +kernel
theorem dL_outlines_155 : decode cL_outlines 155 = .ok (.if_icmp .ne 7, 3) := by decide +kernel
theorem dL_outlines_158 : decode cL_outlines 158 = .ok (.iconst 1, 1) := by decide +kernel
theorem dL_outlines_159 : decode cL_outlines 159 = .ok (.goto 4, 3) := by decide +kernel
theorem dL_outlines_162 : decode cL_outlines 162 = .ok (.iconst 0, 1) := by decide +kernel
theorem dL_outlines_163 : decode cL_outlines 163 = .ok (.if_icmp .eq 7, 3) := by decide +kernel
theorem dL_outlines_166 : decode cL_outlines 166 = .ok (.iconst 1, 1) := by decide +kernel
theorem dL_outlines_167 : decode cL_outlines 167 = .ok (.goto 4, 3) := by decide +kernel
theorem dL_outlines_170 : decode cL_outlines 170 = .ok (.iconst 0, 1) := by decide +kernel
theorem dL_outlines_171 : decode cL_outlines 171 = .ok (.if_icmp .ne 16, 3) := by decide +kernel
theorem dL_outlines_174 : decode cL_outlines 174 = .ok (.aload_n 0, 1) := by decide +kernel
theorem dL_outlines_175 : decode cL_outlines 175 = .ok (.iload 7, 2) := by decide +kernel
theorem dL_outlines_177 : decode cL_outlines 177 = .ok (.iload 6, 2) := by decide +kernel
theorem dL_outlines_179 : decode cL_outlines 179 = .ok (.invokestatic 45, 3) := by decide +kernel
theorem dL_outlines_182 : decode cL_outlines 182 = .ok (.iconst 2, 1) := by decide +kernel
theorem dL_outlines_183 : decode cL_outlines 183 = .ok (.irem, 1) := by decide +kernel
theorem dL_outlines_184 : decode cL_outlines 184 = .ok (.ifCond .eq 5, 3) := by decide +kernel
theorem dL_outlines_187 : decode cL_outlines 187 = .ok (.iconst 0, 1) := by decide +kernel
theorem dL_outlines_188 : decode cL_outlines 188 = .ok (.ireturn, 1) := by decide +kernel
theorem dL_outlines_189 : decode cL_outlines 189 = .ok (.iinc 7 1, 3) := by decide +kernel
theorem dL_outlines_192 : decode cL_outlines 192 = .ok (.goto (-145), 3) := by decide +kernel
theorem dL_outlines_195 : decode cL_outlines 195 = .ok (.iinc 6 1, 3) := by decide +kernel
theorem dL_outlines_198 : decode cL_outlines 198 = .ok (.goto (-160), 3) := by decide +kernel
theorem dL_outlines_201 : decode cL_outlines 201 = .ok (.aload_n 0, 1) := by decide +kernel
theorem dL_outlines_202 : decode cL_outlines 202 = .ok (.iconst 0, 1) := by decide +kernel
theorem dL_outlines_203 : decode cL_outlines 203 = .ok (.invokevirtual 48, 3) := by decide +kernel
theorem dL_outlines_206 : decode cL_outlines 206 = .ok (.iload 5, 2) := by decide +kernel
theorem dL_outlines_208 : decode cL_outlines 208 = .ok (.if_icmp .ne 57, 3) := by decide +kernel
theorem dL_outlines_211 : decode cL_outlines 211 = .ok (.aload_n 0, 1) := by decide +kernel
theorem dL_outlines_212 : decode cL_outlines 212 = .ok (.iconst 2, 1) := by decide +kernel
theorem dL_outlines_213 : decode cL_outlines 213 = .ok (.invokevirtual 48, 3) := by decide +kernel
theorem dL_outlines_216 : decode cL_outlines 216 = .ok (.aload_n 0, 1) := by decide +kernel
theorem dL_outlines_217 : decode cL_outlines 217 = .ok (.iconst 1, 1) := by decide +kernel
theorem dL_outlines_218 : decode cL_outlines 218 = .ok (.invokevirtual 48, 3) := by decide +kernel
theorem dL_outlines_221 : decode cL_outlines 221 = .ok (.if_icmp .ne 44, 3) := by decide +kernel
theorem dL_outlines_224 : decode cL_outlines 224 = .ok (.aload_n 0, 1) := by decide +kernel
theorem dL_outlines_225 : decode cL_outlines 225 = .ok (.iconst 4, 1) := by decide +kernel
theorem dL_outlines_226 : decode cL_outlines 226 = .ok (.invokevirtual 48, 3) := by decide +kernel
theorem dL_outlines_229 : decode cL_outlines 229 = .ok (.ifCond .ne 36, 3) := by decide +kernel
theorem dL_outlines_232 : decode cL_outlines 232 = .ok (.aload_n 0, 1) := by decide +kernel
theorem dL_outlines_233 : decode cL_outlines 233 = .ok (.iload_n 3, 1) := by decide +kernel
theorem dL_outlines_234 : decode cL_outlines 234 = .ok (.invokevirtual 55, 3) := by decide +kernel
theorem dL_outlines_237 : decode cL_outlines 237 = .ok (.ifCond .ne 28, 3) := by decide +kernel
theorem dL_outlines_240 : decode cL_outlines 240 = .ok (.aload_n 0, 1) := by decide +kernel
theorem dL_outlines_241 : decode cL_outlines 241 = .ok (.iconst 0, 1) := by decide +kernel
theorem dL_outlines_242 : decode cL_outlines 242 = .ok (.invokevirtual 55, 3) := by decide +kernel
theorem dL_outlines_245 : decode cL_outlines 245 = .ok (.bipush (-2), 2) := by decide +kernel
theorem dL_outlines_247 : decode cL_outlines 247 = .ok (.if_icmp .ne 18, 3) := by decide +kernel
theorem dL_outlines_250 : decode cL_outlines 250 = .ok (.aload_n 0, 1) := by decide +kernel
theorem dL_outlines_251 : decode cL_outlines 251 = .ok (.bipush 7, 2) := by decide +kernel
theorem dL_outlines_253 : decode cL_outlines 253 = .ok (.invokevirtual 55, 3) := by decide +kernel
theorem dL_outlines_256 : decode cL_outlines 256 = .ok (.bipush (-2), 2) := by decide +kernel
theorem dL_outlines_258 : decode cL_outlines 258 = .ok (.if_icmp .ne 7, 3) := by decide +kernel
theorem dL_outlines_261 : decode cL_outlines 261 = .ok (.iconst 1, 1) := by decide +kernel
theorem dL_outlines_262 : decode cL_outlines 262 = .ok (.goto 4, 3) := by decide +kernel
theorem dL_outlines_265 : decode cL_outlines 265 = .ok (.iconst 0, 1) := by decide +kernel
theorem dL_outlines_266 : decode cL_outlines 266 = .ok (.ireturn, 1) := by decide +kernel
theorem dL_pages_0 : decode cL_pages 0 = .ok (.aload_n 0, 1) := by decide +kernel
theorem dL_pages_1 : decode cL_pages 1 = .ok (.invokevirtual 58, 3) := by decide +kernel
theorem dL_pages_4 : decode cL_pages 4 = .ok (.istore 4, 2) := by decide +kernel
theorem dL_pages_6 : decode cL_pages 6 = .ok (.iconst 0, 1) := by decide +kernel
theorem dL_pages_7 : decode cL_pages 7 = .ok (.istore 5, 2) := by decide +kernel
theorem dL_pages_9 : decode cL_pages 9 = .ok (.iload_n 3, 1) := by decide +kernel
theorem dL_pages_10 : decode cL_pages 10 = .ok (.bipush 7, 2) := by decide +kernel
theorem dL_pages_12 : decode cL_pages 12 = .ok (.invokestatic 61, 3) := by decide +kernel
theorem dL_pages_15 : decode cL_pages 15 = .ok (.istore 6, 2) := by decide +kernel
theorem dL_pages_17 : decode cL_pages 17 = .ok (.iconst 0, 1) := by decide +kernel
theorem dL_pages_18 : decode cL_pages 18 = .ok (.istore 7, 2) := by decide +kernel
theorem dL_pages_20 : decode cL_pages 20 = .ok (.iconst 0, 1) := by decide +kernel
theorem dL_pages_21 : decode cL_pages 21 = .ok (.istore 8, 2) := by decide +kernel
theorem dL_pages_23 : decode cL_pages 23 = .ok (.iconst 0, 1) := by decide +kernel
theorem dL_pages_24 : decode cL_pages 24 = .ok (.istore 9, 2) := by decide +kernel
theorem dL_pages_26 : decode cL_pages 26 = .ok (.iconst 0, 1) := by decide +kernel
theorem dL_pages_27 : decode cL_pages 27 = .ok (.istore 10, 2) := by decide +kernel
theorem dL_pages_29 : decode cL_pages 29 = .ok (.iload 10, 2) := by decide +kernel
theorem dL_pages_31 : decode cL_pages 31 = .ok (.iload 4, 2) := by decide +kernel
theorem dL_pages_33 : decode cL_pages 33 = .ok (.if_icmp .ge 163, 3) := by decide +kernel
theorem dL_pages_36 : decode cL_pages 36 = .ok (.iload 5, 2) := by decide +kernel
theorem dL_pages_38 : decode cL_pages 38 = .ok (.aload_n 0, 1) := by decide +kernel
theorem dL_pages_39 : decode cL_pages 39 = .ok (.iload 10, 2) := by decide +kernel
theorem dL_pages_41 : decode cL_pages 41 = .ok (.iconst 4, 1) := by decide +kernel
theorem dL_pages_42 : decode cL_pages 42 = .ok (.invokevirtual 64, 3) := by decide +kernel
theorem dL_pages_45 : decode cL_pages 45 = .ok (.iadd, 1) := by decide +kernel
theorem dL_pages_46 : decode cL_pages 46 = .ok (.istore 5, 2) := by decide +kernel
theorem dL_pages_48 : decode cL_pages 48 = .ok (.iload 7, 2) := by decide +kernel
theorem dL_pages_50 : decode cL_pages 50 = .ok (.aload_n 0, 1) := by decide +kernel
theorem dL_pages_51 : decode cL_pages 51 = .ok (.iload 10, 2) := by decide +kernel
theorem dL_pages_53 : decode cL_pages 53 = .ok (.iload 6, 2) := by decide +kernel
theorem dL_pages_55 : decode cL_pages 55 = .ok (.iconst 0, 1) := by decide +kernel
theorem dL_pages_56 : decode cL_pages 56 = .ok (.invokevirtual 67, 3) := by decide +kernel
theorem dL_pages_59 : decode cL_pages 59 = .ok (.iadd, 1) := by decide +kernel
theorem dL_pages_60 : decode cL_pages 60 = .ok (.istore 7, 2) := by decide +kernel
theorem dL_pages_62 : decode cL_pages 62 = .ok (.iload 8, 2) := by decide +kernel
theorem dL_pages_64 : decode cL_pages 64 = .ok (.aload_n 0, 1) := by decide +kernel
theorem dL_pages_65 : decode cL_pages 65 = .ok (.iload 10, 2) := by decide +kernel
theorem dL_pages_67 : decode cL_pages 67 = .ok (.iload 6, 2) := by decide +kernel
theorem dL_pages_69 : decode cL_pages 69 = .ok (.iconst 1, 1) := by decide +kernel
theorem dL_pages_70 : decode cL_pages 70 = .ok (.invokevirtual 67, 3) := by decide +kernel
theorem dL_pages_73 : decode cL_pages 73 = .ok (.iadd, 1) := by decide +kernel
theorem dL_pages_74 : decode cL_pages 74 = .ok (.istore 8, 2) := by decide +kernel
theorem dL_pages_76 : decode cL_pages 76 = .ok (.iload 9, 2) := by decide +kernel
theorem dL_pages_78 : decode cL_pages 78 = .ok (.aload_n 0, 1) := by decide +kernel
theorem dL_pages_79 : decode cL_pages 79 = .ok (.iload 10, 2) := by decide +kernel
theorem dL_pages_81 : decode cL_pages 81 = .ok (.iload 6, 2) := by decide +kernel
theorem dL_pages_83 : decode cL_pages 83 = .ok (.iconst 2, 1) := by decide +kernel
theorem dL_pages_84 : decode cL_pages 84 = .ok (.invokevirtual 67, 3) := by decide +kernel
theorem dL_pages_87 : decode cL_pages 87 = .ok (.iadd, 1) := by decide +kernel
theorem dL_pages_88 : decode cL_pages 88 = .ok (.istore 9, 2) := by decide +kernel
theorem dL_pages_90 : decode cL_pages 90 = .ok (.aload_n 0, 1) := by decide +kernel
theorem dL_pages_91 : decode cL_pages 91 = .ok (.iload 10, 2) := by decide +kernel
theorem dL_pages_93 : decode cL_pages 93 = .ok (.iconst 0, 1) := by decide +kernel
theorem dL_pages_94 : decode cL_pages 94 = .ok (.invokevirtual 64, 3) := by decide +kernel
theorem dL_pages_97 : decode cL_pages 97 = .ok (.aload_n 0, 1) := by decide +kernel
theorem dL_pages_98 : decode cL_pages 98 = .ok (.iload 10, 2) := by decide +kernel
theorem dL_pages_100 : decode cL_pages 100 = .ok (.iconst 2, 1) := by decide +kernel
theorem dL_pages_101 : decode cL_pages 101 = .ok (.invokevirtual 64, 3) := by decide +kernel
theorem dL_pages_104 : decode cL_pages 104 = .ok (.iadd, 1) := by decide +kernel
theorem dL_pages_105 : decode cL_pages 105 = .ok (.istore 11, 2) := by decide +kernel
theorem dL_pages_107 : decode cL_pages 107 = .ok (.aload_n 0, 1) := by decide +kernel
theorem dL_pages_108 : decode cL_pages 108 = .ok (.iload 10, 2) := by decide +kernel
theorem dL_pages_110 : decode cL_pages 110 = .ok (.iconst 1, 1) := by decide +kernel
theorem dL_pages_111 : decode cL_pages 111 = .ok (.invokevirtual 64, 3) := by decide +kernel
theorem dL_pages_114 : decode cL_pages 114 = .ok (.aload_n 0, 1) := by decide +kernel
theorem dL_pages_115 : decode cL_pages 115 = .ok (.iload 10, 2) := by decide +kernel
theorem dL_pages_117 : decode cL_pages 117 = .ok (.iconst 3, 1) := by decide +kernel
theorem dL_pages_118 : decode cL_pages 118 = .ok (.invokevirtual 64, 3) := by decide +kernel
theorem dL_pages_121 : decode cL_pages 121 = .ok (.iadd, 1) := by decide +kernel
theorem dL_pages_122 : decode cL_pages 122 = .ok (.istore 12, 2) := by decide +kernel
theorem dL_pages_124 : decode cL_pages 124 = .ok (.aload_n 0, 1) := by decide +kernel
theorem dL_pages_125 : decode cL_pages 125 = .ok (.iload 10, 2) := by decide +kernel
theorem dL_pages_127 : decode cL_pages 127 = .ok (.iconst 2, 1) := by decide +kernel
theorem dL_pages_128 : decode cL_pages 128 = .ok (.invokevirtual 64, 3) := by decide +kernel
theorem dL_pages_131 : decode cL_pages 131 = .ok (.iconst 1, 1) := by decide +kernel
theorem dL_pages_132 : decode cL_pages 132 = .ok (.if_icmp .lt 56, 3) := by decide +kernel
theorem dL_pages_135 : decode cL_pages 135 = .ok (.aload_n 0, 1) := by decide +kernel
theorem dL_pages_136 : decode cL_pages 136 = .ok (.iload 10, 2) := by decide +kernel
theorem dL_pages_138 : decode cL_pages 138 = .ok (.iconst 3, 1) := by decide +kernel
theorem dL_pages_139 : decode cL_pages 139 = .ok (.invokevirtual 64, 3) := by decide +kernel
theorem dL_pages_142 : decode cL_pages 142 = .ok (.iconst 1, 1) := by decide +kernel
theorem dL_pages_143 : decode cL_pages 143 = .ok (.if_icmp .lt 45, 3) := by decide +kernel
theorem dL_pages_146 : decode cL_pages 146 = .ok (.iload 11, 2) := by decide +kernel
theorem dL_pages_148 : decode cL_pages 148 = .ok (.iload_n 1, 1) := by decide +kernel
theorem dL_pages_149 : decode cL_pages 149 = .ok (.if_icmp .gt 39, 3) := by decide +kernel
theorem dL_pages_152 : decode cL_pages 152 = .ok (.iload 12, 2) := by decide +kernel
theorem dL_pages_154 : decode cL_pages 154 = .ok (.iload_n 2, 1) := by decide +kernel
theorem dL_pages_155 : decode cL_pages 155 = .ok (.if_icmp .gt 33, 3) := by decide +kernel
theorem dL_pages_158 : decode cL_pages 158 = .ok (.aload_n 0, 1) := by decide +kernel
theorem dL_pages_159 : decode cL_pages 159 = .ok (.iload 10, 2) := by decide +kernel
theorem dL_pages_161 : decode cL_pages 161 = .ok (.bipush 6, 2) := by decide +kernel
theorem dL_pages_163 : decode cL_pages 163 = .ok (.invokevirtual 64, 3) := by decide +kernel
theorem dL_pages_166 : decode cL_pages 166 = .ok (.bipush (-2), 2) := by decide +kernel
theorem dL_pages_168 : decode cL_pages 168 = .ok (.if_icmp .ne 20, 3) := by decide +kernel
theorem dL_pages_171 : decode cL_pages 171 = .ok (.aload_n 0, 1) := by decide +kernel
theorem dL_pages_172 : decode cL_pages 172 = .ok (.iload 11, 2) := by decide +kernel
theorem dL_pages_174 : decode cL_pages 174 = .ok (.iconst 1, 1) := by decide +kernel
theorem dL_pages_175 : decode cL_pages 175 = .ok (.isub, 1) := by decide +kernel
theorem dL_pages_176 : decode cL_pages 176 = .ok (.iload 12, 2) := by decide +kernel
theorem dL_pages_178 : decode cL_pages 178 = .ok (.iconst 1, 1) := by decide +kernel
theorem dL_pages_179 : decode cL_pages 179 = .ok (.isub, 1) := by decide +kernel
theorem dL_pages_180 : decode cL_pages 180 = .ok (.invokevirtual 70, 3) := by decide +kernel
theorem dL_pages_183 : decode cL_pages 183 = .ok (.iload 10, 2) := by decide +kernel
theorem dL_pages_185 : decode cL_pages 185 = .ok (.if_icmp .eq 5, 3) := by decide +kernel
theorem dL_pages_188 : decode cL_pages 188 = .ok (.iconst 0, 1) := by decide +kernel
theorem dL_pages_189 : decode cL_pages 189 = .ok (.ireturn, 1) := by decide +kernel
theorem dL_pages_190 : decode cL_pages 190 = .ok (.iinc 10 1, 3) := by decide +kernel
theorem dL_pages_193 : decode cL_pages 193 = .ok (.goto (-164), 3) := by decide +kernel
theorem dL_pages_196 : decode cL_pages 196 = .ok (.iload_n 3, 1) := by decide +kernel
theorem dL_pages_197 : decode cL_pages 197 = .ok (.iconst 3, 1) := by decide +kernel
theorem dL_pages_198 : decode cL_pages 198 = .ok (.ishr, 1) := by decide +kernel
theorem dL_pages_199 : decode cL_pages 199 = .ok (.iload_n 1, 1) := by decide +kernel
theorem dL_pages_200 : decode cL_pages 200 = .ok (.invokestatic 61, 3) := by decide +kernel
theorem dL_pages_203 : decode cL_pages 203 = .ok (.istore 10, 2) := by decide +kernel
theorem dL_pages_205 : decode cL_pages 205 = .ok (.iload_n 3, 1) := by decide +kernel
theorem dL_pages_206 : decode cL_pages 206 = .ok (.bipush 8, 2) := by decide +kernel
theorem dL_pages_208 : decode cL_pages 208 = .ok (.ishr, 1) := by decide +kernel
theorem dL_pages_209 : decode cL_pages 209 = .ok (.iload_n 2, 1) := by decide +kernel
theorem dL_pages_210 : decode cL_pages 210 = .ok (.invokestatic 61, 3) := by decide +kernel
theorem dL_pages_213 : decode cL_pages 213 = .ok (.istore 11, 2) := by decide +kernel
theorem dL_pages_215 : decode cL_pages 215 = .ok (.aload_n 0, 1) := by decide +kernel
theorem dL_pages_216 : decode cL_pages 216 = .ok (.iload 10, 2) := by decide +kernel
theorem dL_pages_218 : decode cL_pages 218 = .ok (.iload 11, 2) := by decide +kernel
theorem dL_pages_220 : decode cL_pages 220 = .ok (.invokevirtual 70, 3) := by decide +kernel
theorem dL_pages_223 : decode cL_pages 223 = .ok (.istore 12, 2) := by decide +kernel
theorem dL_pages_225 : decode cL_pages 225 = .ok (.iconst 0, 1) := by decide +kernel
theorem dL_pages_226 : decode cL_pages 226 = .ok (.istore 13, 2) := by decide +kernel
theorem dL_pages_228 : decode cL_pages 228 = .ok (.iload 13, 2) := by decide +kernel
theorem dL_pages_230 : decode cL_pages 230 = .ok (.iload 4, 2) := by decide +kernel
theorem dL_pages_232 : decode cL_pages 232 = .ok (.if_icmp .ge 106, 3) := by decide +kernel
theorem dL_pages_235 : decode cL_pages 235 = .ok (.iload 10, 2) := by decide +kernel
theorem dL_pages_237 : decode cL_pages 237 = .ok (.aload_n 0, 1) := by decide +kernel
theorem dL_pages_238 : decode cL_pages 238 = .ok (.iload 13, 2) := by decide +kernel
theorem dL_pages_240 : decode cL_pages 240 = .ok (.iconst 0, 1) := by decide +kernel
theorem dL_pages_241 : decode cL_pages 241 = .ok (.invokevirtual 64, 3) := by decide +kernel
theorem dL_pages_244 : decode cL_pages 244 = .ok (.if_icmp .lt 59, 3) := by decide +kernel
theorem dL_pages_247 : decode cL_pages 247 = .ok (.iload 10, 2) := by decide +kernel
theorem dL_pages_249 : decode cL_pages 249 = .ok (.aload_n 0, 1) := by decide +kernel
theorem dL_pages_250 : decode cL_pages 250 = .ok (.iload 13, 2) := by decide +kernel
theorem dL_pages_252 : decode cL_pages 252 = .ok (.iconst 0, 1) := by decide +kernel
theorem dL_pages_253 : decode cL_pages 253 = .ok (.invokevirtual 64, 3) := by decide +kernel
theorem dL_pages_256 : decode cL_pages 256 = .ok (.aload_n 0, 1) := by decide +kernel
theorem dL_pages_257 : decode cL_pages 257 = .ok (.iload 13, 2) := by decide +kernel
theorem dL_pages_259 : decode cL_pages 259 = .ok (.iconst 2, 1) := by decide +kernel
theorem dL_pages_260 : decode cL_pages 260 = .ok (.invokevirtual 64, 3) := by decide +kernel
theorem dL_pages_263 : decode cL_pages 263 = .ok (.iadd, 1) := by decide +kernel
theorem dL_pages_264 : decode cL_pages 264 = .ok (.if_icmp .ge 39, 3) := by decide +kernel
theorem dL_pages_267 : decode cL_pages 267 = .ok (.iload 11, 2) := by decide +kernel
theorem dL_pages_269 : decode cL_pages 269 = .ok (.aload_n 0, 1) := by decide +kernel
theorem dL_pages_270 : decode cL_pages 270 = .ok (.iload 13, 2) := by decide +kernel
theorem dL_pages_272 : decode cL_pages 272 = .ok (.iconst 1, 1) := by decide +kernel
theorem dL_pages_273 : decode cL_pages 273 = .ok (.invokevirtual 64, 3) := by decide +kernel
theorem dL_pages_276 : decode cL_pages 276 = .ok (.if_icmp .lt 27, 3) := by decide +kernel
theorem dL_pages_279 : decode cL_pages 279 = .ok (.iload 11, 2) := by decide +kernel
theorem dL_pages_281 : decode cL_pages 281 = .ok (.aload_n 0, 1) := by decide +kernel
theorem dL_pages_282 : decode cL_pages 282 = .ok (.iload 13, 2) := by decide +kernel
theorem dL_pages_284 : decode cL_pages 284 = .ok (.iconst 1, 1) := by decide +kernel
theorem dL_pages_285 : decode cL_pages 285 = .ok (.invokevirtual 64, 3) := by decide +kernel
theorem dL_pages_288 : decode cL_pages 288 = .ok (.aload_n 0, 1) := by decide +kernel
theorem dL_pages_289 : decode cL_pages 289 = .ok (.iload 13, 2) := by decide +kernel
theorem dL_pages_291 : decode cL_pages 291 = .ok (.iconst 3, 1) := by decide +kernel
theorem dL_pages_292 : decode cL_pages 292 = .ok (.invokevirtual 64, 3) := by decide +kernel
theorem dL_pages_295 : decode cL_pages 295 = .ok (.iadd, 1) := by decide +kernel
theorem dL_pages_296 : decode cL_pages 296 = .ok (.if_icmp .ge 7, 3) := by decide +kernel
theorem dL_pages_299 : decode cL_pages 299 = .ok (.iconst 1, 1) := by decide +kernel
theorem dL_pages_300 : decode cL_pages 300 = .ok (.goto 4, 3) := by decide +kernel
theorem dL_pages_303 : decode cL_pages 303 = .ok (.iconst 0, 1) := by decide +kernel
theorem dL_pages_304 : decode cL_pages 304 = .ok (.istore 14, 2) := by decide +kernel
theorem dL_pages_306 : decode cL_pages 306 = .ok (.iload 14, 2) := by decide +kernel
theorem dL_pages_308 : decode cL_pages 308 = .ok (.ifCond .eq 10, 3) := by decide +kernel
theorem dL_pages_311 : decode cL_pages 311 = .ok (.iload 13, 2) := by decide +kernel
theorem dL_pages_313 : decode cL_pages 313 = .ok (.iload 12, 2) := by decide +kernel
theorem dL_pages_315 : decode cL_pages 315 = .ok (.if_icmp .lt 15, 3) := by decide +kernel
theorem dL_pages_318 : decode cL_pages 318 = .ok (.iload 14, 2) := by decide +kernel
theorem dL_pages_320 : decode cL_pages 320 = .ok (.ifCond .ne 12, 3) := by decide +kernel
theorem dL_pages_323 : decode cL_pages 323 = .ok (.iload 13, 2) := by decide +kernel
theorem dL_pages_325 : decode cL_pages 325 = .ok (.iload 12, 2) := by decide +kernel
theorem dL_pages_327 : decode cL_pages 327 = .ok (.if_icmp .ne 5, 3) := by decide +kernel
theorem dL_pages_330 : decode cL_pages 330 = .ok (.iconst 0, 1) := by decide +kernel
theorem dL_pages_331 : decode cL_pages 331 = .ok (.ireturn, 1) := by decide +kernel
theorem dL_pages_332 : decode cL_pages 332 = .ok (.iinc 13 1, 3) := by decide +kernel
theorem dL_pages_335 : decode cL_pages 335 = .ok (.goto (-107), 3) := by decide +kernel
theorem dL_pages_338 : decode cL_pages 338 = .ok (.iload 5, 2) := by decide +kernel
theorem dL_pages_340 : decode cL_pages 340 = .ok (.iload_n 1, 1) := by decide +kernel
theorem dL_pages_341 : decode cL_pages 341 = .ok (.iload_n 2, 1) := by decide +kernel
theorem dL_pages_342 : decode cL_pages 342 = .ok (.imul, 1) := by decide +kernel
theorem dL_pages_343 : decode cL_pages 343 = .ok (.if_icmp .ne 43, 3) := by decide +kernel
theorem dL_pages_346 : decode cL_pages 346 = .ok (.iload 7, 2) := by decide +kernel
theorem dL_pages_348 : decode cL_pages 348 = .ok (.aload_n 0, 1) := by decide +kernel
theorem dL_pages_349 : decode cL_pages 349 = .ok (.iload 6, 2) := by decide +kernel
theorem dL_pages_351 : decode cL_pages 351 = .ok (.iconst 0, 1) := by decide +kernel
theorem dL_pages_352 : decode cL_pages 352 = .ok (.invokevirtual 9, 3) := by decide +kernel
theorem dL_pages_355 : decode cL_pages 355 = .ok (.if_icmp .ne 31, 3) := by decide +kernel
theorem dL_pages_358 : decode cL_pages 358 = .ok (.iload 8, 2) := by decide +kernel
theorem dL_pages_360 : decode cL_pages 360 = .ok (.aload_n 0, 1) := by decide +kernel
theorem dL_pages_361 : decode cL_pages 361 = .ok (.iload 6, 2) := by decide +kernel
theorem dL_pages_363 : decode cL_pages 363 = .ok (.iconst 2, 1) := by decide +kernel
theorem dL_pages_364 : decode cL_pages 364 = .ok (.invokevirtual 9, 3) := by decide +kernel
theorem dL_pages_367 : decode cL_pages 367 = .ok (.if_icmp .ne 19, 3) := by decide +kernel
theorem dL_pages_370 : decode cL_pages 370 = .ok (.iload 9, 2) := by decide +kernel
theorem dL_pages_372 : decode cL_pages 372 = .ok (.aload_n 0, 1) := by decide +kernel
theorem dL_pages_373 : decode cL_pages 373 = .ok (.iload 6, 2) := by decide +kernel
theorem dL_pages_375 : decode cL_pages 375 = .ok (.iconst 3, 1) := by decide +kernel
theorem dL_pages_376 : decode cL_pages 376 = .ok (.invokevirtual 9, 3) := by decide +kernel
theorem dL_pages_379 : decode cL_pages 379 = .ok (.if_icmp .ne 7, 3) := by decide +kernel
theorem dL_pages_382 : decode cL_pages 382 = .ok (.iconst 1, 1) := by decide +kernel
theorem dL_pages_383 : decode cL_pages 383 = .ok (.goto 4, 3) := by decide +kernel
theorem dL_pages_386 : decode cL_pages 386 = .ok (.iconst 0, 1) := by decide +kernel
theorem dL_pages_387 : decode cL_pages 387 = .ok (.istore 13, 2) := by decide +kernel
theorem dL_pages_389 : decode cL_pages 389 = .ok (.iload 13, 2) := by decide +kernel
theorem dL_pages_391 : decode cL_pages 391 = .ok (.ifCond .eq 67, 3) := by decide +kernel
theorem dL_pages_394 : decode cL_pages 394 = .ok (.aload_n 0, 1) := by decide +kernel
theorem dL_pages_395 : decode cL_pages 395 = .ok (.iload 4, 2) := by decide +kernel
theorem dL_pages_397 : decode cL_pages 397 = .ok (.iconst 0, 1) := by decide +kernel
theorem dL_pages_398 : decode cL_pages 398 = .ok (.invokevirtual 64, 3) := by decide +kernel
theorem dL_pages_401 : decode cL_pages 401 = .ok (.iconst (-1), 1) := by decide +kernel
theorem dL_pages_402 : decode cL_pages 402 = .ok (.if_icmp .ne 56, 3) := by decide +kernel
theorem dL_pages_405 : decode cL_pages 405 = .ok (.aload_n 0, 1) := by decide +kernel
theorem dL_pages_406 : decode cL_pages 406 = .ok (.iload 4, 2) := by decide +kernel
theorem dL_pages_408 : decode cL_pages 408 = .ok (.bipush 9, 2) := by decide +kernel
theorem dL_pages_410 : decode cL_pages 410 = .ok (.bipush 9, 2) := by decide +kernel
theorem dL_pages_412 : decode cL_pages 412 = .ok (.invokevirtual 67, 3) := by decide +kernel
theorem dL_pages_415 : decode cL_pages 415 = .ok (.iconst (-1), 1) := by decide +kernel
theorem dL_pages_416 : decode cL_pages 416 = .ok (.if_icmp .ne 42, 3) := by decide +kernel
theorem dL_pages_419 : decode cL_pages 419 = .ok (.aload_n 0, 1) := by decide +kernel
theorem dL_pages_420 : decode cL_pages 420 = .ok (.iconst 0, 1) := by decide +kernel
theorem dL_pages_421 : decode cL_pages 421 = .ok (.bipush 7, 2) := by decide +kernel
theorem dL_pages_423 : decode cL_pages 423 = .ok (.iconst 0, 1) := by decide +kernel
theorem dL_pages_424 : decode cL_pages 424 = .ok (.invokevirtual 67, 3) := by decide +kernel
theorem dL_pages_427 : decode cL_pages 427 = .ok (.bipush (-2), 2) := by decide +kernel
theorem dL_pages_429 : decode cL_pages 429 = .ok (.if_icmp .ne 29, 3) := by decide +kernel
theorem dL_pages_432 : decode cL_pages 432 = .ok (.aload_n 0, 1) := by decide +kernel
theorem dL_pages_433 : decode cL_pages 433 = .ok (.iconst 0, 1) := by decide +kernel
theorem dL_pages_434 : decode cL_pages 434 = .ok (.iconst 0, 1) := by decide +kernel
theorem dL_pages_435 : decode cL_pages 435 = .ok (.iconst 3, 1) := by decide +kernel
theorem dL_pages_436 : decode cL_pages 436 = .ok (.invokevirtual 67, 3) := by decide +kernel
theorem dL_pages_439 : decode cL_pages 439 = .ok (.bipush (-2), 2) := by decide +kernel
theorem dL_pages_441 : decode cL_pages 441 = .ok (.if_icmp .ne 17, 3) := by decide +kernel
theorem dL_pages_444 : decode cL_pages 444 = .ok (.aload_n 0, 1) := by decide +kernel
theorem dL_pages_445 : decode cL_pages 445 = .ok (.iload_n 1, 1) := by decide +kernel
theorem dL_pages_446 : decode cL_pages 446 = .ok (.iconst 0, 1) := by decide +kernel
theorem dL_pages_447 : decode cL_pages 447 = .ok (.invokevirtual 70, 3) := by decide +kernel
theorem dL_pages_450 : decode cL_pages 450 = .ok (.iconst (-1), 1) := by decide +kernel
theorem dL_pages_451 : decode cL_pages 451 = .ok (.if_icmp .ne 7, 3) := by decide +kernel
theorem dL_pages_454 : decode cL_pages 454 = .ok (.iconst 1, 1) := by decide +kernel
theorem dL_pages_455 : decode cL_pages 455 = .ok (.goto 4, 3) := by decide +kernel
theorem dL_pages_458 : decode cL_pages 458 = .ok (.iconst 0, 1) := by decide +kernel
theorem dL_pages_459 : decode cL_pages 459 = .ok (.ireturn, 1) := by decide +kernel
theorem dL_orders_0 : decode cL_orders 0 = .ok (.aload_n 0, 1) := by decide +kernel
theorem dL_orders_1 : decode cL_orders 1 = .ok (.iload_n 1, 1) := by decide +kernel
theorem dL_orders_2 : decode cL_orders 2 = .ok (.iconst 2, 1) := by decide +kernel
theorem dL_orders_3 : decode cL_orders 3 = .ok (.invokevirtual 9, 3) := by decide +kernel
theorem dL_orders_6 : decode cL_orders 6 = .ok (.istore_n 3, 1) := by decide +kernel
theorem dL_orders_7 : decode cL_orders 7 = .ok (.iload_n 3, 1) := by decide +kernel
theorem dL_orders_8 : decode cL_orders 8 = .ok (.ifCond .ne 37, 3) := by decide +kernel
theorem dL_orders_11 : decode cL_orders 11 = .ok (.aload_n 0, 1) := by decide +kernel
theorem dL_orders_12 : decode cL_orders 12 = .ok (.iload_n 1, 1) := by decide +kernel
theorem dL_orders_13 : decode cL_orders 13 = .ok (.iconst 0, 1) := by decide +kernel
theorem dL_orders_14 : decode cL_orders 14 = .ok (.iconst 0, 1) := by decide +kernel
theorem dL_orders_15 : decode cL_orders 15 = .ok (.invokevirtual 73, 3) := by decide +kernel
theorem dL_orders_18 : decode cL_orders 18 = .ok (.bipush (-2), 2) := by decide +kernel
theorem dL_orders_20 : decode cL_orders 20 = .ok (.if_icmp .ne 23, 3) := by decide +kernel
theorem dL_orders_23 : decode cL_orders 23 = .ok (.aload_n 0, 1) := by decide +kernel
theorem dL_orders_24 : decode cL_orders 24 = .ok (.iload_n 1, 1) := by decide +kernel
theorem dL_orders_25 : decode cL_orders 25 = .ok (.invokevirtual 76, 3) := by decide +kernel
theorem dL_orders_28 : decode cL_orders 28 = .ok (.ifCond .ne 15, 3) := by decide +kernel
theorem dL_orders_31 : decode cL_orders 31 = .ok (.aload_n 0, 1) := by decide +kernel
theorem dL_orders_32 : decode cL_orders 32 = .ok (.iload_n 1, 1) := by decide +kernel
theorem dL_orders_33 : decode cL_orders 33 = .ok (.invokevirtual 79, 3) := by decide +kernel
theorem dL_orders_36 : decode cL_orders 36 = .ok (.ifCond .ne 7, 3) := by decide +kernel
theorem dL_orders_39 : decode cL_orders 39 = .ok (.iconst 1, 1) := by decide +kernel
theorem dL_orders_40 : decode cL_orders 40 = .ok (.goto 4, 3) := by decide +kernel
theorem dL_orders_43 : decode cL_orders 43 = .ok (.iconst 0, 1) := by decide +kernel
theorem dL_orders_44 : decode cL_orders 44 = .ok (.ireturn, 1) := by decide +kernel
theorem dL_orders_45 : decode cL_orders 45 = .ok (.iload_n 2, 1) := by decide +kernel
theorem dL_orders_46 : decode cL_orders 46 = .ok (.iload_n 3, 1) := by decide +kernel
theorem dL_orders_47 : decode cL_orders 47 = .ok (.invokestatic 61, 3) := by decide +kernel
theorem dL_orders_50 : decode cL_orders 50 = .ok (.istore 4, 2) := by decide +kernel
theorem dL_orders_52 : decode cL_orders 52 = .ok (.iload_n 2, 1) := by decide +kernel
theorem dL_orders_53 : decode cL_orders 53 = .ok (.bipush 6, 2) := by decide +kernel
theorem dL_orders_55 : decode cL_orders 55 = .ok (.ishr, 1) := by decide +kernel
theorem dL_orders_56 : decode cL_orders 56 = .ok (.iload_n 3, 1) := by decide +kernel
theorem dL_orders_57 : decode cL_orders 57 = .ok (.invokestatic 61, 3) := by decide +kernel
theorem dL_orders_60 : decode cL_orders 60 = .ok (.istore 5, 2) := by decide +kernel
theorem dL_orders_62 : decode cL_orders 62 = .ok (.aload_n 0, 1) := by decide +kernel
theorem dL_orders_63 : decode cL_orders 63 = .ok (.iload_n 1, 1) := by decide +kernel
theorem dL_orders_64 : decode cL_orders 64 = .ok (.iload 4, 2) := by decide +kernel
theorem dL_orders_66 : decode cL_orders 66 = .ok (.invokevirtual 22, 3) := by decide +kernel
theorem dL_orders_69 : decode cL_orders 69 = .ok (.istore 6, 2) := by decide +kernel
theorem dL_orders_71 : decode cL_orders 71 = .ok (.aload_n 0, 1) := by decide +kernel
theorem dL_orders_72 : decode cL_orders 72 = .ok (.iload_n 1, 1) := by decide +kernel
theorem dL_orders_73 : decode cL_orders 73 = .ok (.iload 4, 2) := by decide +kernel
theorem dL_orders_75 : decode cL_orders 75 = .ok (.iload 5, 2) := by decide +kernel
theorem dL_orders_77 : decode cL_orders 77 = .ok (.invokevirtual 73, 3) := by decide +kernel
theorem dL_orders_80 : decode cL_orders 80 = .ok (.istore 7, 2) := by decide +kernel
theorem dL_orders_82 : decode cL_orders 82 = .ok (.iload 7, 2) := by decide +kernel
theorem dL_orders_84 : decode cL_orders 84 = .ok (.aload_n 0, 1) := by decide +kernel
theorem dL_orders_85 : decode cL_orders 85 = .ok (.iload_n 1, 1) := by decide +kernel
theorem dL_orders_86 : decode cL_orders 86 = .ok (.iconst 3, 1) := by decide +kernel
theorem dL_orders_87 : decode cL_orders 87 = .ok (.invokevirtual 9, 3) := by decide +kernel
theorem dL_orders_90 : decode cL_orders 90 = .ok (.if_icmp .ne 39, 3) := by decide +kernel
theorem dL_orders_93 : decode cL_orders 93 = .ok (.aload_n 0, 1) := by decide +kernel
theorem dL_orders_94 : decode cL_orders 94 = .ok (.iload_n 1, 1) := by decide +kernel
theorem dL_orders_95 : decode cL_orders 95 = .ok (.iload 5, 2) := by decide +kernel
theorem dL_orders_97 : decode cL_orders 97 = .ok (.invokevirtual 22, 3) := by decide +kernel
theorem dL_orders_100 : decode cL_orders 100 = .ok (.iload 6, 2) := by decide +kernel
theorem dL_orders_102 : decode cL_orders 102 = .ok (.if_icmp .ne 27, 3) := by decide +kernel
theorem dL_orders_105 : decode cL_orders 105 = .ok (.aload_n 0, 1) := by decide +kernel
theorem dL_orders_106 : decode cL_orders 106 = .ok (.iload_n 1, 1) := by decide +kernel
theorem dL_orders_107 : decode cL_orders 107 = .ok (.iload_n 3, 1) := by decide +kernel
theorem dL_orders_108 : decode cL_orders 108 = .ok (.iconst 0, 1) := by decide +kernel
theorem dL_orders_109 : decode cL_orders 109 = .ok (.invokevirtual 73, 3) := by decide +kernel
theorem dL_orders_112 : decode cL_orders 112 = .ok (.bipush (-2), 2) := by decide +kernel
theorem dL_orders_114 : decode cL_orders 114 = .ok (.if_icmp .ne 15, 3) := by decide +kernel
theorem dL_orders_117 : decode cL_orders 117 = .ok (.aload_n 0, 1) := by decide +kernel
theorem dL_orders_118 : decode cL_orders 118 = .ok (.iconst 0, 1) := by decide +kernel
theorem dL_orders_119 : decode cL_orders 119 = .ok (.iconst 0, 1) := by decide +kernel
theorem dL_orders_120 : decode cL_orders 120 = .ok (.iconst 0, 1) := by decide +kernel
theorem dL_orders_121 : decode cL_orders 121 = .ok (.invokevirtual 73, 3) := by decide +kernel
theorem dL_orders_124 : decode cL_orders 124 = .ok (.bipush (-2), 2) := by decide +kernel
theorem dL_orders_126 : decode cL_orders 126 = .ok (.if_icmp .eq 5, 3) := by decide +kernel
theorem dL_orders_129 : decode cL_orders 129 = .ok (.iconst 0, 1) := by decide +kernel
theorem dL_orders_130 : decode cL_orders 130 = .ok (.ireturn, 1) := by decide +kernel
theorem dL_orders_131 : decode cL_orders 131 = .ok (.iload_n 2, 1) := by decide +kernel
theorem dL_orders_132 : decode cL_orders 132 = .ok (.bipush 12, 2) := by decide +kernel
theorem dL_orders_134 : decode cL_orders 134 = .ok (.ishr, 1) := by decide +kernel
theorem dL_orders_135 : decode cL_orders 135 = .ok (.iconst 1, 1) := by decide +kernel
theorem dL_orders_136 : decode cL_orders 136 = .ok (.iand, 1) := by decide +kernel
theorem dL_orders_137 : decode cL_orders 137 = .ok (.ifCond .ne 54, 3) := by decide +kernel
theorem dL_orders_140 : decode cL_orders 140 = .ok (.aload_n 0, 1) := by decide +kernel
theorem dL_orders_141 : decode cL_orders 141 = .ok (.iload_n 1, 1) := by decide +kernel
theorem dL_orders_142 : decode cL_orders 142 = .ok (.invokevirtual 76, 3) := by decide +kernel
theorem dL_orders_145 : decode cL_orders 145 = .ok (.istore 8, 2) := by decide +kernel
theorem dL_orders_147 : decode cL_orders 147 = .ok (.aload_n 0, 1) := by decide +kernel
theorem dL_orders_148 : decode cL_orders 148 = .ok (.iload_n 1, 1) := by decide +kernel
theorem dL_orders_149 : decode cL_orders 149 = .ok (.iconst 3, 1) := by decide +kernel
theorem dL_orders_150 : decode cL_orders 150 = .ok (.invokevirtual 9, 3) := by decide +kernel
theorem dL_orders_153 : decode cL_orders 153 = .ok (.istore 9, 2) := by decide +kernel
theorem dL_orders_155 : decode cL_orders 155 = .ok (.iload 8, 2) := by decide +kernel
theorem dL_orders_157 : decode cL_orders 157 = .ok (.ifCond .ne 13, 3) := by decide +kernel
theorem dL_orders_160 : decode cL_orders 160 = .ok (.iload 9, 2) := by decide +kernel
theorem dL_orders_162 : decode cL_orders 162 = .ok (.iload 7, 2) := by decide +kernel
theorem dL_orders_164 : decode cL_orders 164 = .ok (.if_icmp .ne 25, 3) := by decide +kernel
theorem dL_orders_167 : decode cL_orders 167 = .ok (.goto 10, 3) := by decide +kernel
theorem dL_orders_170 : decode cL_orders 170 = .ok (.iload 9, 2) := by decide +kernel
theorem dL_orders_172 : decode cL_orders 172 = .ok (.iload 7, 2) := by decide +kernel
theorem dL_orders_174 : decode cL_orders 174 = .ok (.if_icmp .ge 15, 3) := by decide +kernel
theorem dL_orders_177 : decode cL_orders 177 = .ok (.aload_n 0, 1) := by decide +kernel
theorem dL_orders_178 : decode cL_orders 178 = .ok (.iload_n 1, 1) := by decide +kernel
theorem dL_orders_179 : decode cL_orders 179 = .ok (.invokevirtual 76, 3) := by decide +kernel
theorem dL_orders_182 : decode cL_orders 182 = .ok (.ifCond .ne 7, 3) := by decide +kernel
theorem dL_orders_185 : decode cL_orders 185 = .ok (.iconst 1, 1) := by decide +kernel
theorem dL_orders_186 : decode cL_orders 186 = .ok (.goto 4, 3) := by decide +kernel
theorem dL_orders_189 : decode cL_orders 189 = .ok (.iconst 0, 1) := by decide +kernel
theorem dL_orders_190 : decode cL_orders 190 = .ok (.ireturn, 1) := by decide +kernel
theorem dL_orders_191 : decode cL_orders 191 = .ok (.aload_n 0, 1) := by decide +kernel
theorem dL_orders_192 : decode cL_orders 192 = .ok (.iload_n 1, 1) := by decide +kernel
theorem dL_orders_193 : decode cL_orders 193 = .ok (.invokevirtual 79, 3) := by decide +kernel
theorem dL_orders_196 : decode cL_orders 196 = .ok (.aload_n 0, 1) := by decide +kernel
theorem dL_orders_197 : decode cL_orders 197 = .ok (.iload_n 1, 1) := by decide +kernel
theorem dL_orders_198 : decode cL_orders 198 = .ok (.iconst 3, 1) := by decide +kernel
theorem dL_orders_199 : decode cL_orders 199 = .ok (.invokevirtual 9, 3) := by decide +kernel
theorem dL_orders_202 : decode cL_orders 202 = .ok (.if_icmp .ne 36, 3) := by decide +kernel
theorem dL_orders_205 : decode cL_orders 205 = .ok (.aload_n 0, 1) := by decide +kernel
theorem dL_orders_206 : decode cL_orders 206 = .ok (.iload_n 1, 1) := by decide +kernel
theorem dL_orders_207 : decode cL_orders 207 = .ok (.invokestatic 82, 3) := by decide +kernel
theorem dL_orders_210 : decode cL_orders 210 = .ok (.ifCond .eq 28, 3) := by decide +kernel
theorem dL_orders_213 : decode cL_orders 213 = .ok (.aload_n 0, 1) := by decide +kernel
theorem dL_orders_214 : decode cL_orders 214 = .ok (.iconst 0, 1) := by decide +kernel
theorem dL_orders_215 : decode cL_orders 215 = .ok (.invokevirtual 79, 3) := by decide +kernel
theorem dL_orders_218 : decode cL_orders 218 = .ok (.bipush (-2), 2) := by decide +kernel
theorem dL_orders_220 : decode cL_orders 220 = .ok (.if_icmp .ne 18, 3) := by decide +kernel
theorem dL_orders_223 : decode cL_orders 223 = .ok (.aload_n 0, 1) := by decide +kernel
theorem dL_orders_224 : decode cL_orders 224 = .ok (.bipush 7, 2) := by decide +kernel
theorem dL_orders_226 : decode cL_orders 226 = .ok (.invokevirtual 76, 3) := by decide +kernel
theorem dL_orders_229 : decode cL_orders 229 = .ok (.bipush (-2), 2) := by decide +kernel
theorem dL_orders_231 : decode cL_orders 231 = .ok (.if_icmp .ne 7, 3) := by decide +kernel
theorem dL_orders_234 : decode cL_orders 234 = .ok (.iconst 1, 1) := by decide +kernel
theorem dL_orders_235 : decode cL_orders 235 = .ok (.goto 4, 3) := by decide +kernel
theorem dL_orders_238 : decode cL_orders 238 = .ok (.iconst 0, 1) := by decide +kernel
theorem dL_orders_239 : decode cL_orders 239 = .ok (.ireturn, 1) := by decide +kernel
theorem dL_texts_0 : decode cL_texts 0 = .ok (.aload_n 0, 1) := by decide +kernel
theorem dL_texts_1 : decode cL_texts 1 = .ok (.invokevirtual 86, 3) := by decide +kernel
theorem dL_texts_4 : decode cL_texts 4 = .ok (.pop, 1) := by decide +kernel
theorem dL_texts_5 : decode cL_texts 5 = .ok (.iconst 1, 1) := by decide +kernel
theorem dL_texts_6 : decode cL_texts 6 = .ok (.iload_n 1, 1) := by decide +kernel
theorem dL_texts_7 : decode cL_texts 7 = .ok (.iconst 3, 1) := by decide +kernel
theorem dL_texts_8 : decode cL_texts 8 = .ok (.invokestatic 61, 3) := by decide +kernel
theorem dL_texts_11 : decode cL_texts 11 = .ok (.iadd, 1) := by decide +kernel
theorem dL_texts_12 : decode cL_texts 12 = .ok (.istore_n 2, 1) := by decide +kernel
theorem dL_texts_13 : decode cL_texts 13 = .ok (.aload_n 0, 1) := by decide +kernel
theorem dL_texts_14 : decode cL_texts 14 = .ok (.bipush 48, 2) := by decide +kernel
theorem dL_texts_16 : decode cL_texts 16 = .ok (.iload_n 2, 1) := by decide +kernel
theorem dL_texts_17 : decode cL_texts 17 = .ok (.iadd, 1) := by decide +kernel
theorem dL_texts_18 : decode cL_texts 18 = .ok (.i2c, 1) := by decide +kernel
theorem dL_texts_19 : decode cL_texts 19 = .ok (.invokevirtual 89, 3) := by decide +kernel
theorem dL_texts_22 : decode cL_texts 22 = .ok (.pop, 1) := by decide +kernel
theorem dL_texts_23 : decode cL_texts 23 = .ok (.aload_n 0, 1) := by decide +kernel
theorem dL_texts_24 : decode cL_texts 24 = .ok (.invokevirtual 93, 3) := by decide +kernel
theorem dL_texts_27 : decode cL_texts 27 = .ok (.bipush (-101), 2) := by decide +kernel
theorem dL_texts_29 : decode cL_texts 29 = .ok (.if_icmp .ne 7, 3) := by decide +kernel
theorem dL_texts_32 : decode cL_texts 32 = .ok (.iconst 1, 1) := by decide +kernel
theorem dL_texts_33 : decode cL_texts 33 = .ok (.goto 4, 3) := by decide +kernel
theorem dL_texts_36 : decode cL_texts 36 = .ok (.iconst 0, 1) := by decide +kernel
theorem dL_texts_37 : decode cL_texts 37 = .ok (.istore_n 3, 1) := by decide +kernel
theorem dL_texts_38 : decode cL_texts 38 = .ok (.aload_n 0, 1) := by decide +kernel
theorem dL_texts_39 : decode cL_texts 39 = .ok (.bipush 120, 2) := by decide +kernel
theorem dL_texts_41 : decode cL_texts 41 = .ok (.invokevirtual 89, 3) := by decide +kernel
theorem dL_texts_44 : decode cL_texts 44 = .ok (.pop, 1) := by decide +kernel
theorem dL_texts_45 : decode cL_texts 45 = .ok (.aload_n 0, 1) := by decide +kernel
theorem dL_texts_46 : decode cL_texts 46 = .ok (.invokevirtual 93, 3) := by decide +kernel
theorem dL_texts_49 : decode cL_texts 49 = .ok (.bipush (-101), 2) := by decide +kernel
theorem dL_texts_51 : decode cL_texts 51 = .ok (.if_icmp .ne 7, 3) := by decide +kernel
theorem dL_texts_54 : decode cL_texts 54 = .ok (.iconst 1, 1) := by decide +kernel
theorem dL_texts_55 : decode cL_texts 55 = .ok (.goto 4, 3) := by decide +kernel
theorem dL_texts_58 : decode cL_texts 58 = .ok (.iconst 0, 1) := by decide +kernel
theorem dL_texts_59 : decode cL_texts 59 = .ok (.istore 4, 2) := by decide +kernel
theorem dL_texts_61 : decode cL_texts 61 = .ok (.aload_n 0, 1) := by decide +kernel
theorem dL_texts_62 : decode cL_texts 62 = .ok (.invokevirtual 86, 3) := by decide +kernel
theorem dL_texts_65 : decode cL_texts 65 = .ok (.pop, 1) := by decide +kernel
theorem dL_texts_66 : decode cL_texts 66 = .ok (.aload_n 0, 1) := by decide +kernel
theorem dL_texts_67 : decode cL_texts 67 = .ok (.bipush 50, 2) := by decide +kernel
theorem dL_texts_69 : decode cL_texts 69 = .ok (.invokevirtual 89, 3) := by decide +kernel
theorem dL_texts_72 : decode cL_texts 72 = .ok (.pop, 1) := by decide +kernel
theorem dL_texts_73 : decode cL_texts 73 = .ok (.aload_n 0, 1) := by decide +kernel
theorem dL_texts_74 : decode cL_texts 74 = .ok (.bipush 53, 2) := by decide +kernel
theorem dL_texts_76 : decode cL_texts 76 = .ok (.invokevirtual 89, 3) := by decide +kernel
theorem dL_texts_79 : decode cL_texts 79 = .ok (.pop, 1) := by decide +kernel
theorem dL_texts_80 : decode cL_texts 80 = .ok (.aload_n 0, 1) := by decide +kernel
theorem dL_texts_81 : decode cL_texts 81 = .ok (.invokevirtual 93, 3) := by decide +kernel
theorem dL_texts_84 : decode cL_texts 84 = .ok (.bipush (-100), 2) := by decide +kernel
theorem dL_texts_86 : decode cL_texts 86 = .ok (.if_icmp .ne 7, 3) := by decide +kernel
theorem dL_texts_89 : decode cL_texts 89 = .ok (.iconst 1, 1) := by decide +kernel
theorem dL_texts_90 : decode cL_texts 90 = .ok (.goto 4, 3) := by decide +kernel
theorem dL_texts_93 : decode cL_texts 93 = .ok (.iconst 0, 1) := by decide +kernel
theorem dL_texts_94 : decode cL_texts 94 = .ok (.istore 5, 2) := by decide +kernel
theorem dL_texts_96 : decode cL_texts 96 = .ok (.aload_n 0, 1) := by decide +kernel
theorem dL_texts_97 : decode cL_texts 97 = .ok (.bipush 49, 2) := by decide +kernel
theorem dL_texts_99 : decode cL_texts 99 = .ok (.invokevirtual 89, 3) := by decide +kernel
theorem dL_texts_102 : decode cL_texts 102 = .ok (.pop, 1) := by decide +kernel
theorem dL_texts_103 : decode cL_texts 103 = .ok (.aload_n 0, 1) := by decide +kernel
theorem dL_texts_104 : decode cL_texts 104 = .ok (.invokevirtual 93, 3) := by decide +kernel
theorem dL_texts_107 : decode cL_texts 107 = .ok (.bipush (-102), 2) := by decide +kernel
theorem dL_texts_109 : decode cL_texts 109 = .ok (.if_icmp .ne 7, 3) := by decide +kernel
theorem dL_texts_112 : decode cL_texts 112 = .ok (.iconst 1, 1) := by decide +kernel
theorem dL_texts_113 : decode cL_texts 113 = .ok (.goto 4, 3) := by decide +kernel
theorem dL_texts_116 : decode cL_texts 116 = .ok (.iconst 0, 1) := by decide +kernel
theorem dL_texts_117 : decode cL_texts 117 = .ok (.istore 6, 2) := by decide +kernel
theorem dL_texts_119 : decode cL_texts 119 = .ok (.aload_n 0, 1) := by decide +kernel
theorem dL_texts_120 : decode cL_texts 120 = .ok (.invokevirtual 86, 3) := by decide +kernel
theorem dL_texts_123 : decode cL_texts 123 = .ok (.pop, 1) := by decide +kernel
theorem dL_texts_124 : decode cL_texts 124 = .ok (.aload_n 0, 1) := by decide +kernel
theorem dL_texts_125 : decode cL_texts 125 = .ok (.bipush 50, 2) := by decide +kernel
theorem dL_texts_127 : decode cL_texts 127 = .ok (.invokevirtual 89, 3) := by decide +kernel
theorem dL_texts_130 : decode cL_texts 130 = .ok (.pop, 1) := by decide +kernel
theorem dL_texts_131 : decode cL_texts 131 = .ok (.aload_n 0, 1) := by decide +kernel
theorem dL_texts_132 : decode cL_texts 132 = .ok (.bipush 52, 2) := by decide +kernel
theorem dL_texts_134 : decode cL_texts 134 = .ok (.invokevirtual 89, 3) := by decide +kernel
theorem dL_texts_137 : decode cL_texts 137 = .ok (.pop, 1) := by decide +kernel
theorem dL_texts_138 : decode cL_texts 138 = .ok (.aload_n 0, 1) := by decide +kernel
theorem dL_texts_139 : decode cL_texts 139 = .ok (.bipush 97, 2) := by decide +kernel
theorem dL_texts_141 : decode cL_texts 141 = .ok (.invokevirtual 89, 3) := by decide +kernel
theorem dL_texts_144 : decode cL_texts 144 = .ok (.pop, 1) := by decide +kernel
theorem dL_texts_145 : decode cL_texts 145 = .ok (.aload_n 0, 1) := by decide +kernel
theorem dL_texts_146 : decode cL_texts 146 = .ok (.bipush 97, 2) := by decide +kernel
theorem dL_texts_148 : decode cL_texts 148 = .ok (.invokevirtual 89, 3) := by decide +kernel
theorem dL_texts_151 : decode cL_texts 151 = .ok (.pop, 1) := by decide +kernel
theorem dL_texts_152 : decode cL_texts 152 = .ok (.aload_n 0, 1) := by decide +kernel
theorem dL_texts_153 : decode cL_texts 153 = .ok (.invokevirtual 93, 3) := by decide +kernel
theorem dL_texts_156 : decode cL_texts 156 = .ok (.sipush (-220), 3) := by decide +kernel
theorem dL_texts_159 : decode cL_texts 159 = .ok (.if_icmp .ne 7, 3) := by decide +kernel
theorem dL_texts_162 : decode cL_texts 162 = .ok (.iconst 1, 1) := by decide +kernel
theorem dL_texts_163 : decode cL_texts 163 = .ok (.goto 4, 3) := by decide +kernel
theorem dL_texts_166 : decode cL_texts 166 = .ok (.iconst 0, 1) := by decide +kernel
theorem dL_texts_167 : decode cL_texts 167 = .ok (.istore 7, 2) := by decide +kernel
theorem dL_texts_169 : decode cL_texts 169 = .ok (.iload_n 3, 1) := by decide +kernel
theorem dL_texts_170 : decode cL_texts 170 = .ok (.ifCond .eq 42, 3) := by decide +kernel
theorem dL_texts_173 : decode cL_texts 173 = .ok (.iload 4, 2) := by decide +kernel
theorem dL_texts_175 : decode cL_texts 175 = .ok (.ifCond .eq 37, 3) := by decide +kernel
theorem dL_texts_178 : decode cL_texts 178 = .ok (.iload 5, 2) := by decide +kernel
theorem dL_texts_180 : decode cL_texts 180 = .ok (.ifCond .eq 32, 3) := by decide +kernel
theorem dL_texts_183 : decode cL_texts 183 = .ok (.iload 6, 2) := by decide +kernel
theorem dL_texts_185 : decode cL_texts 185 = .ok (.ifCond .eq 27, 3) := by decide +kernel
theorem dL_texts_188 : decode cL_texts 188 = .ok (.iload 7, 2) := by decide +kernel
theorem dL_texts_190 : decode cL_texts 190 = .ok (.ifCond .eq 22, 3) := by decide +kernel
theorem dL_texts_193 : decode cL_texts 193 = .ok (.aload_n 0, 1) := by decide +kernel
theorem dL_texts_194 : decode cL_texts 194 = .ok (.invokevirtual 86, 3) := by decide +kernel
theorem dL_texts_197 : decode cL_texts 197 = .ok (.iconst 4, 1) := by decide +kernel
theorem dL_texts_198 : decode cL_texts 198 = .ok (.if_icmp .ne 14, 3) := by decide +kernel
theorem dL_texts_201 : decode cL_texts 201 = .ok (.aload_n 0, 1) := by decide +kernel
theorem dL_texts_202 : decode cL_texts 202 = .ok (.invokevirtual 93, 3) := by decide +kernel
theorem dL_texts_205 : decode cL_texts 205 = .ok (.ifCond .ne 7, 3) := by decide +kernel
theorem dL_texts_208 : decode cL_texts 208 = .ok (.iconst 1, 1) := by decide +kernel
theorem dL_texts_209 : decode cL_texts 209 = .ok (.goto 4, 3) := by decide +kernel
theorem dL_texts_212 : decode cL_texts 212 = .ok (.iconst 0, 1) := by decide +kernel
theorem dL_texts_213 : decode cL_texts 213 = .ok (.ireturn, 1) := by decide +kernel
theorem dL_errors_0 : decode cL_errors 0 = .ok (.bipush (-2), 2) := by decide +kernel
theorem dL_errors_2 : decode cL_errors 2 = .ok (.istore_n 3, 1) := by decide +kernel
theorem dL_errors_3 : decode cL_errors 3 = .ok (.aload_n 0, 1) := by decide +kernel
theorem dL_errors_4 : decode cL_errors 4 = .ok (.iconst 0, 1) := by decide +kernel
theorem dL_errors_5 : decode cL_errors 5 = .ok (.iconst 1, 1) := by decide +kernel
theorem dL_errors_6 : decode cL_errors 6 = .ok (.invokevirtual 96, 3) := by decide +kernel
theorem dL_errors_9 : decode cL_errors 9 = .ok (.iload_n 3, 1) := by decide +kernel
theorem dL_errors_10 : decode cL_errors 10 = .ok (.if_icmp .ne 121, 3) := by decide +kernel
theorem dL_errors_13 : decode cL_errors 13 = .ok (.aload_n 0, 1) := by decide +kernel
theorem dL_errors_14 : decode cL_errors 14 = .ok (.iconst 1, 1) := by decide +kernel
theorem dL_errors_15 : decode cL_errors 15 = .ok (.bipush 25, 2) := by decide +kernel
theorem dL_errors_17 : decode cL_errors 17 = .ok (.invokevirtual 96, 3) := by decide +kernel
theorem dL_errors_20 : decode cL_errors 20 = .ok (.iload_n 3, 1) := by decide +kernel
theorem dL_errors_21 : decode cL_errors 21 = .ok (.if_icmp .ne 110, 3) := by decide +kernel
theorem dL_errors_24 : decode cL_errors 24 = .ok (.aload_n 0, 1) := by decide +kernel
theorem dL_errors_25 : decode cL_errors 25 = .ok (.iload_n 1, 1) := by decide +kernel
theorem dL_errors_26 : decode cL_errors 26 = .ok (.iconst 0, 1) := by decide +kernel
theorem dL_errors_27 : decode cL_errors 27 = .ok (.bipush 9, 2) := by decide +kernel
theorem dL_errors_29 : decode cL_errors 29 = .ok (.invokevirtual 99, 3) := by decide +kernel
theorem dL_errors_32 : decode cL_errors 32 = .ok (.iconst (-1), 1) := by decide +kernel
theorem dL_errors_33 : decode cL_errors 33 = .ok (.if_icmp .ne 98, 3) := by decide +kernel
theorem dL_errors_36 : decode cL_errors 36 = .ok (.aload_n 0, 1) := by decide +kernel
theorem dL_errors_37 : decode cL_errors 37 = .ok (.iconst 0, 1) := by decide +kernel
theorem dL_errors_38 : decode cL_errors 38 = .ok (.iconst 0, 1) := by decide +kernel
theorem dL_errors_39 : decode cL_errors 39 = .ok (.bipush 7, 2) := by decide +kernel
theorem dL_errors_41 : decode cL_errors 41 = .ok (.invokevirtual 99, 3) := by decide +kernel
theorem dL_errors_44 : decode cL_errors 44 = .ok (.iload_n 3, 1) := by decide +kernel
theorem dL_errors_45 : decode cL_errors 45 = .ok (.if_icmp .ne 86, 3) := by decide +kernel
theorem dL_errors_48 : decode cL_errors 48 = .ok (.aload_n 0, 1) := by decide +kernel
theorem dL_errors_49 : decode cL_errors 49 = .ok (.iconst 0, 1) := by decide +kernel
theorem dL_errors_50 : decode cL_errors 50 = .ok (.iload_n 2, 1) := by decide +kernel
theorem dL_errors_51 : decode cL_errors 51 = .ok (.iconst 1, 1) := by decide +kernel
theorem dL_errors_52 : decode cL_errors 52 = .ok (.iconst 1, 1) := by decide +kernel
theorem dL_errors_53 : decode cL_errors 53 = .ok (.iconst 0, 1) := by decide +kernel
theorem dL_errors_54 : decode cL_errors 54 = .ok (.invokevirtual 102, 3) := by decide +kernel
theorem dL_errors_57 : decode cL_errors 57 = .ok (.iconst (-1), 1) := by decide +kernel
theorem dL_errors_58 : decode cL_errors 58 = .ok (.if_icmp .ne 73, 3) := by decide +kernel
theorem dL_errors_61 : decode cL_errors 61 = .ok (.aload_n 0, 1) := by decide +kernel
theorem dL_errors_62 : decode cL_errors 62 = .ok (.iconst 0, 1) := by decide +kernel
theorem dL_errors_63 : decode cL_errors 63 = .ok (.iconst 0, 1) := by decide +kernel
theorem dL_errors_64 : decode cL_errors 64 = .ok (.iload_n 1, 1) := by decide +kernel
theorem dL_errors_65 : decode cL_errors 65 = .ok (.iconst 1, 1) := by decide +kernel
theorem dL_errors_66 : decode cL_errors 66 = .ok (.iadd, 1) := by decide +kernel
theorem dL_errors_67 : decode cL_errors 67 = .ok (.iconst 1, 1) := by decide +kernel
theorem dL_errors_68 : decode cL_errors 68 = .ok (.iconst 0, 1) := by decide +kernel
theorem dL_errors_69 : decode cL_errors 69 = .ok (.invokevirtual 102, 3) := by decide +kernel
theorem dL_errors_72 : decode cL_errors 72 = .ok (.iload_n 3, 1) := by decide +kernel
theorem dL_errors_73 : decode cL_errors 73 = .ok (.if_icmp .ne 58, 3) := by decide +kernel
theorem dL_errors_76 : decode cL_errors 76 = .ok (.aload_n 0, 1) := by decide +kernel
theorem dL_errors_77 : decode cL_errors 77 = .ok (.iconst 0, 1) := by decide +kernel
theorem dL_errors_78 : decode cL_errors 78 = .ok (.iconst 0, 1) := by decide +kernel
theorem dL_errors_79 : decode cL_errors 79 = .ok (.ldc 8, 2) := by decide +kernel
theorem dL_errors_81 : decode cL_errors 81 = .ok (.iconst 1, 1) := by decide +kernel
theorem dL_errors_82 : decode cL_errors 82 = .ok (.iconst 0, 1) := by decide +kernel
theorem dL_errors_83 : decode cL_errors 83 = .ok (.invokevirtual 102, 3) := by decide +kernel
theorem dL_errors_86 : decode cL_errors 86 = .ok (.iload_n 3, 1) := by decide +kernel
theorem dL_errors_87 : decode cL_errors 87 = .ok (.if_icmp .ne 44, 3) := by decide +kernel
theorem dL_errors_90 : decode cL_errors 90 = .ok (.aload_n 0, 1) := by decide +kernel
theorem dL_errors_91 : decode cL_errors 91 = .ok (.iconst 0, 1) := by decide +kernel
theorem dL_errors_92 : decode cL_errors 92 = .ok (.iconst 0, 1) := by decide +kernel
theorem dL_errors_93 : decode cL_errors 93 = .ok (.iconst 1, 1) := by decide +kernel
theorem dL_errors_94 : decode cL_errors 94 = .ok (.iconst 0, 1) := by decide +kernel
theorem dL_errors_95 : decode cL_errors 95 = .ok (.iconst 0, 1) := by decide +kernel
theorem dL_errors_96 : decode cL_errors 96 = .ok (.invokevirtual 102, 3) := by decide +kernel
theorem dL_errors_99 : decode cL_errors 99 = .ok (.iload_n 3, 1) := by decide +kernel
theorem dL_errors_100 : decode cL_errors 100 = .ok (.if_icmp .ne 31, 3) := by decide +kernel
theorem dL_errors_103 : decode cL_errors 103 = .ok (.aload_n 0, 1) := by decide +kernel
theorem dL_errors_104 : decode cL_errors 104 = .ok (.sipush 1001, 3) := by decide +kernel
theorem dL_errors_107 : decode cL_errors 107 = .ok (.iconst 0, 1) := by decide +kernel
theorem dL_errors_108 : decode cL_errors 108 = .ok (.invokevirtual 106, 3) := by decide +kernel
theorem dL_errors_111 : decode cL_errors 111 = .ok (.iload_n 3, 1) := by decide +kernel
theorem dL_errors_112 : decode cL_errors 112 = .ok (.if_icmp .ne 19, 3) := by decide +kernel
theorem dL_errors_115 : decode cL_errors 115 = .ok (.aload_n 0, 1) := by decide +kernel
theorem dL_errors_116 : decode cL_errors 116 = .ok (.iconst 0, 1) := by decide +kernel
theorem dL_errors_117 : decode cL_errors 117 = .ok (.sipush 201, 3) := by decide +kernel
theorem dL_errors_120 : decode cL_errors 120 = .ok (.invokevirtual 106, 3) := by decide +kernel
theorem dL_errors_123 : decode cL_errors 123 = .ok (.iload_n 3, 1) := by decide +kernel
theorem dL_errors_124 : decode cL_errors 124 = .ok (.if_icmp .ne 7, 3) := by decide +kernel
theorem dL_errors_127 : decode cL_errors 127 = .ok (.iconst 1, 1) := by decide +kernel
theorem dL_errors_128 : decode cL_errors 128 = .ok (.goto 4, 3) := by decide +kernel
theorem dL_errors_131 : decode cL_errors 131 = .ok (.iconst 0, 1) := by decide +kernel
theorem dL_errors_132 : decode cL_errors 132 = .ok (.istore 4, 2) := by decide +kernel
theorem dL_errors_134 : decode cL_errors 134 = .ok (.iload 4, 2) := by decide +kernel
theorem dL_errors_136 : decode cL_errors 136 = .ok (.ifCond .eq 88, 3) := by decide +kernel
theorem dL_errors_139 : decode cL_errors 139 = .ok (.aload_n 0, 1) := by decide +kernel
theorem dL_errors_140 : decode cL_errors 140 = .ok (.iconst 3, 1) := by decide +kernel
theorem dL_errors_141 : decode cL_errors 141 = .ok (.iconst 4, 1) := by decide +kernel
theorem dL_errors_142 : decode cL_errors 142 = .ok (.iconst 0, 1) := by decide +kernel
theorem dL_errors_143 : decode cL_errors 143 = .ok (.invokevirtual 109, 3) := by decide +kernel
theorem dL_errors_146 : decode cL_errors 146 = .ok (.iload_n 3, 1) := by decide +kernel
theorem dL_errors_147 : decode cL_errors 147 = .ok (.if_icmp .ne 77, 3) := by decide +kernel
theorem dL_errors_150 : decode cL_errors 150 = .ok (.aload_n 0, 1) := by decide +kernel
theorem dL_errors_151 : decode cL_errors 151 = .ok (.iconst 4, 1) := by decide +kernel
theorem dL_errors_152 : decode cL_errors 152 = .ok (.bipush 25, 2) := by decide +kernel
theorem dL_errors_154 : decode cL_errors 154 = .ok (.iconst 0, 1) := by decide +kernel
theorem dL_errors_155 : decode cL_errors 155 = .ok (.invokevirtual 109, 3) := by decide +kernel
theorem dL_errors_158 : decode cL_errors 158 = .ok (.iload_n 3, 1) := by decide +kernel
theorem dL_errors_159 : decode cL_errors 159 = .ok (.if_icmp .ne 65, 3) := by decide +kernel
theorem dL_errors_162 : decode cL_errors 162 = .ok (.aload_n 0, 1) := by decide +kernel
theorem dL_errors_163 : decode cL_errors 163 = .ok (.iconst 4, 1) := by decide +kernel
theorem dL_errors_164 : decode cL_errors 164 = .ok (.iconst 4, 1) := by decide +kernel
theorem dL_errors_165 : decode cL_errors 165 = .ok (.iconst 4, 1) := by decide +kernel
theorem dL_errors_166 : decode cL_errors 166 = .ok (.invokevirtual 109, 3) := by decide +kernel
theorem dL_errors_169 : decode cL_errors 169 = .ok (.iload_n 3, 1) := by decide +kernel
theorem dL_errors_170 : decode cL_errors 170 = .ok (.if_icmp .ne 54, 3) := by decide +kernel
theorem dL_errors_173 : decode cL_errors 173 = .ok (.aload_n 0, 1) := by decide +kernel
theorem dL_errors_174 : decode cL_errors 174 = .ok (.iconst 0, 1) := by decide +kernel
theorem dL_errors_175 : decode cL_errors 175 = .ok (.iconst 0, 1) := by decide +kernel
theorem dL_errors_176 : decode cL_errors 176 = .ok (.iconst 0, 1) := by decide +kernel
theorem dL_errors_177 : decode cL_errors 177 = .ok (.invokevirtual 18, 3) := by decide +kernel
theorem dL_errors_180 : decode cL_errors 180 = .ok (.iload_n 3, 1) := by decide +kernel
theorem dL_errors_181 : decode cL_errors 181 = .ok (.if_icmp .ne 43, 3) := by decide +kernel
theorem dL_errors_184 : decode cL_errors 184 = .ok (.aload_n 0, 1) := by decide +kernel
theorem dL_errors_185 : decode cL_errors 185 = .ok (.bipush 7, 2) := by decide +kernel
theorem dL_errors_187 : decode cL_errors 187 = .ok (.iconst 0, 1) := by decide +kernel
theorem dL_errors_188 : decode cL_errors 188 = .ok (.iconst 0, 1) := by decide +kernel
theorem dL_errors_189 : decode cL_errors 189 = .ok (.invokevirtual 18, 3) := by decide +kernel
theorem dL_errors_192 : decode cL_errors 192 = .ok (.iload_n 3, 1) := by decide +kernel
theorem dL_errors_193 : decode cL_errors 193 = .ok (.if_icmp .ne 31, 3) := by decide +kernel
theorem dL_errors_196 : decode cL_errors 196 = .ok (.aload_n 0, 1) := by decide +kernel
theorem dL_errors_197 : decode cL_errors 197 = .ok (.iconst 0, 1) := by decide +kernel
theorem dL_errors_198 : decode cL_errors 198 = .ok (.iload_n 2, 1) := by decide +kernel
theorem dL_errors_199 : decode cL_errors 199 = .ok (.iconst 1, 1) := by decide +kernel
theorem dL_errors_200 : decode cL_errors 200 = .ok (.iconst 1, 1) := by decide +kernel
theorem dL_errors_201 : decode cL_errors 201 = .ok (.invokevirtual 112, 3) := by decide +kernel
theorem dL_errors_204 : decode cL_errors 204 = .ok (.iconst (-1), 1) := by decide +kernel
theorem dL_errors_205 : decode cL_errors 205 = .ok (.if_icmp .ne 19, 3) := by decide +kernel
theorem dL_errors_208 : decode cL_errors 208 = .ok (.aload_n 0, 1) := by decide +kernel
theorem dL_errors_209 : decode cL_errors 209 = .ok (.iconst (-1), 1) := by decide +kernel
theorem dL_errors_210 : decode cL_errors 210 = .ok (.iconst 0, 1) := by decide +kernel
theorem dL_errors_211 : decode cL_errors 211 = .ok (.iconst 0, 1) := by decide +kernel
theorem dL_errors_212 : decode cL_errors 212 = .ok (.iconst 1, 1) := by decide +kernel
theorem dL_errors_213 : decode cL_errors 213 = .ok (.invokevirtual 112, 3) := by decide +kernel
theorem dL_errors_216 : decode cL_errors 216 = .ok (.iconst (-1), 1) := by decide +kernel
theorem dL_errors_217 : decode cL_errors 217 = .ok (.if_icmp .ne 7, 3) := by decide +kernel
theorem dL_errors_220 : decode cL_errors 220 = .ok (.iconst 1, 1) := by decide +kernel
theorem dL_errors_221 : decode cL_errors 221 = .ok (.goto 4, 3) := by decide +kernel
theorem dL_errors_224 : decode cL_errors 224 = .ok (.iconst 0, 1) := by decide +kernel
theorem dL_errors_225 : decode cL_errors 225 = .ok (.ireturn, 1) := by decide +kernel
theorem dL_law_0 : decode cL_law 0 = .ok (.new 10, 3) := by decide +kernel
theorem dL_law_3 : decode cL_law 3 = .ok (.dup, 1) := by decide +kernel
theorem dL_law_4 : decode cL_law 4 = .ok (.invokespecial 116, 3) := by decide +kernel
theorem dL_law_7 : decode cL_law 7 = .ok (.astore_n 1, 1) := by decide +kernel
theorem dL_law_8 : decode cL_law 8 = .ok (.aload_n 0, 1) := by decide +kernel
theorem dL_law_9 : decode cL_law 9 = .ok (.iconst 0, 1) := by decide +kernel
theorem dL_law_10 : decode cL_law 10 = .ok (.invokestatic 117, 3) := by decide +kernel
theorem dL_law_13 : decode cL_law 13 = .ok (.istore_n 2, 1) := by decide +kernel
theorem dL_law_14 : decode cL_law 14 = .ok (.iconst 1, 1) := by decide +kernel
theorem dL_law_15 : decode cL_law 15 = .ok (.iload_n 2, 1) := by decide +kernel
theorem dL_law_16 : decode cL_law 16 = .ok (.bipush 12, 2) := by decide +kernel
theorem dL_law_18 : decode cL_law 18 = .ok (.invokestatic 61, 3) := by decide +kernel
theorem dL_law_21 : decode cL_law 21 = .ok (.iadd, 1) := by decide +kernel
theorem dL_law_22 : decode cL_law 22 = .ok (.istore_n 3, 1) := by decide +kernel
theorem dL_law_23 : decode cL_law 23 = .ok (.iconst 1, 1) := by decide +kernel
theorem dL_law_24 : decode cL_law 24 = .ok (.iload_n 2, 1) := by decide +kernel
theorem dL_law_25 : decode cL_law 25 = .ok (.iconst 4, 1) := by decide +kernel
theorem dL_law_26 : decode cL_law 26 = .ok (.ishr, 1) := by decide +kernel
theorem dL_law_27 : decode cL_law 27 = .ok (.bipush 8, 2) := by decide +kernel
theorem dL_law_29 : decode cL_law 29 = .ok (.invokestatic 61, 3) := by decide +kernel
theorem dL_law_32 : decode cL_law 32 = .ok (.iadd, 1) := by decide +kernel
theorem dL_law_33 : decode cL_law 33 = .ok (.istore 4, 2) := by decide +kernel
theorem dL_law_35 : decode cL_law 35 = .ok (.bipush 60, 2) := by decide +kernel
theorem dL_law_37 : decode cL_law 37 = .ok (.istore 5, 2) := by decide +kernel
theorem dL_law_39 : decode cL_law 39 = .ok (.bipush 30, 2) := by decide +kernel
theorem dL_law_41 : decode cL_law 41 = .ok (.istore 6, 2) := by decide +kernel
theorem dL_law_43 : decode cL_law 43 = .ok (.aload_n 1, 1) := by decide +kernel
theorem dL_law_44 : decode cL_law 44 = .ok (.iload_n 3, 1) := by decide +kernel
theorem dL_law_45 : decode cL_law 45 = .ok (.iload 4, 2) := by decide +kernel
theorem dL_law_47 : decode cL_law 47 = .ok (.invokevirtual 96, 3) := by decide +kernel
theorem dL_law_50 : decode cL_law 50 = .ok (.iload_n 3, 1) := by decide +kernel
theorem dL_law_51 : decode cL_law 51 = .ok (.iload 4, 2) := by decide +kernel
theorem dL_law_53 : decode cL_law 53 = .ok (.imul, 1) := by decide +kernel
theorem dL_law_54 : decode cL_law 54 = .ok (.if_icmp .eq 5, 3) := by decide +kernel
theorem dL_law_57 : decode cL_law 57 = .ok (.iconst 0, 1) := by decide +kernel
theorem dL_law_58 : decode cL_law 58 = .ok (.ireturn, 1) := by decide +kernel
theorem dL_law_59 : decode cL_law 59 = .ok (.iconst 0, 1) := by decide +kernel
theorem dL_law_60 : decode cL_law 60 = .ok (.istore 7, 2) := by decide +kernel
theorem dL_law_62 : decode cL_law 62 = .ok (.iload 7, 2) := by decide +kernel
theorem dL_law_64 : decode cL_law 64 = .ok (.bipush 34, 2) := by decide +kernel
theorem dL_law_66 : decode cL_law 66 = .ok (.if_icmp .ge 691, 3) := by decide +kernel
theorem dL_law_69 : decode cL_law 69 = .ok (.aload_n 0, 1) := by decide +kernel
theorem dL_law_70 : decode cL_law 70 = .ok (.iconst 1, 1) := by decide +kernel
theorem dL_law_71 : decode cL_law 71 = .ok (.iconst 2, 1) := by decide +kernel
theorem dL_law_72 : decode cL_law 72 = .ok (.iload 7, 2) := by decide +kernel
theorem dL_law_74 : decode cL_law 74 = .ok (.imul, 1) := by decide +kernel
theorem dL_law_75 : decode cL_law 75 = .ok (.iadd, 1) := by decide +kernel
theorem dL_law_76 : decode cL_law 76 = .ok (.invokestatic 117, 3) := by decide +kernel
theorem dL_law_79 : decode cL_law 79 = .ok (.istore 8, 2) := by decide +kernel
theorem dL_law_81 : decode cL_law 81 = .ok (.aload_n 0, 1) := by decide +kernel
theorem dL_law_82 : decode cL_law 82 = .ok (.iconst 2, 1) := by decide +kernel
theorem dL_law_83 : decode cL_law 83 = .ok (.iconst 2, 1) := by decide +kernel
theorem dL_law_84 : decode cL_law 84 = .ok (.iload 7, 2) := by decide +kernel
theorem dL_law_86 : decode cL_law 86 = .ok (.imul, 1) := by decide +kernel
theorem dL_law_87 : decode cL_law 87 = .ok (.iadd, 1) := by decide +kernel
theorem dL_law_88 : decode cL_law 88 = .ok (.invokestatic 117, 3) := by decide +kernel
theorem dL_law_91 : decode cL_law 91 = .ok (.istore 9, 2) := by decide +kernel
theorem dL_law_93 : decode cL_law 93 = .ok (.iload 7, 2) := by decide +kernel
theorem dL_law_95 : decode cL_law 95 = .ok (.bipush 8, 2) := by decide +kernel
theorem dL_law_97 : decode cL_law 97 = .ok (.if_icmp .ge 10, 3) := by decide +kernel
theorem dL_law_100 : decode cL_law 100 = .ok (.iload 7, 2) := by decide +kernel
theorem dL_law_102 : decode cL_law 102 = .ok (.iconst 2, 1) := by decide +kernel
theorem dL_law_103 : decode cL_law 103 = .ok (.irem, 1) := by decide +kernel
theorem dL_law_104 : decode cL_law 104 = .ok (.goto 10, 3) := by decide +kernel
theorem dL_law_107 : decode cL_law 107 = .ok (.iload 8, 2) := by decide +kernel
theorem dL_law_109 : decode cL_law 109 = .ok (.bipush 9, 2) := by decide +kernel
theorem dL_law_111 : decode cL_law 111 = .ok (.invokestatic 61, 3) := by decide +kernel
theorem dL_law_114 : decode cL_law 114 = .ok (.istore 10, 2) := by decide +kernel
theorem dL_law_116 : decode cL_law 116 = .ok (.iload 8, 2) := by decide +kernel
theorem dL_law_118 : decode cL_law 118 = .ok (.iconst 4, 1) := by decide +kernel
theorem dL_law_119 : decode cL_law 119 = .ok (.ishr, 1) := by decide +kernel
theorem dL_law_120 : decode cL_law 120 = .ok (.iload_n 3, 1) := by decide +kernel
theorem dL_law_121 : decode cL_law 121 = .ok (.invokestatic 61, 3) := by decide +kernel
theorem dL_law_124 : decode cL_law 124 = .ok (.istore 11, 2) := by decide +kernel
theorem dL_law_126 : decode cL_law 126 = .ok (.iload 8, 2) := by decide +kernel
theorem dL_law_128 : decode cL_law 128 = .ok (.bipush 8, 2) := by decide +kernel
theorem dL_law_130 : decode cL_law 130 = .ok (.ishr, 1) := by decide +kernel
theorem dL_law_131 : decode cL_law 131 = .ok (.iload 4, 2) := by decide +kernel
theorem dL_law_133 : decode cL_law 133 = .ok (.invokestatic 61, 3) := by decide +kernel
theorem dL_law_136 : decode cL_law 136 = .ok (.istore 12, 2) := by decide +kernel
theorem dL_law_138 : decode cL_law 138 = .ok (.iload 9, 2) := by decide +kernel
theorem dL_law_140 : decode cL_law 140 = .ok (.bipush 7, 2) := by decide +kernel
theorem dL_law_142 : decode cL_law 142 = .ok (.invokestatic 61, 3) := by decide +kernel
theorem dL_law_145 : decode cL_law 145 = .ok (.istore 13, 2) := by decide +kernel
theorem dL_law_147 : decode cL_law 147 = .ok (.iload 10, 2) := by decide +kernel
theorem dL_law_149 : decode cL_law 149 = .ok (.ifCond .ne 88, 3) := by decide +kernel
theorem dL_law_152 : decode cL_law 152 = .ok (.aload_n 1, 1) := by decide +kernel
theorem dL_law_153 : decode cL_law 153 = .ok (.iload 11, 2) := by decide +kernel
theorem dL_law_155 : decode cL_law 155 = .ok (.iload 12, 2) := by decide +kernel
theorem dL_law_157 : decode cL_law 157 = .ok (.invokevirtual 15, 3) := by decide +kernel
theorem dL_law_160 : decode cL_law 160 = .ok (.istore 14, 2) := by decide +kernel
theorem dL_law_162 : decode cL_law 162 = .ok (.aload_n 1, 1) := by decide +kernel
theorem dL_law_163 : decode cL_law 163 = .ok (.iload 11, 2) := by decide +kernel
theorem dL_law_165 : decode cL_law 165 = .ok (.iload 12, 2) := by decide +kernel
theorem dL_law_167 : decode cL_law 167 = .ok (.iload 13, 2) := by decide +kernel
theorem dL_law_169 : decode cL_law 169 = .ok (.invokevirtual 99, 3) := by decide +kernel
theorem dL_law_172 : decode cL_law 172 = .ok (.iload 14, 2) := by decide +kernel
theorem dL_law_174 : decode cL_law 174 = .ok (.if_icmp .ne 58, 3) := by decide +kernel
theorem dL_law_177 : decode cL_law 177 = .ok (.aload_n 1, 1) := by decide +kernel
theorem dL_law_178 : decode cL_law 178 = .ok (.iload 11, 2) := by decide +kernel
theorem dL_law_180 : decode cL_law 180 = .ok (.iload 12, 2) := by decide +kernel
theorem dL_law_182 : decode cL_law 182 = .ok (.invokevirtual 15, 3) := by decide +kernel
theorem dL_law_185 : decode cL_law 185 = .ok (.iload 13, 2) := by decide +kernel
theorem dL_law_187 : decode cL_law 187 = .ok (.if_icmp .ne 45, 3) := by decide +kernel
theorem dL_law_190 : decode cL_law 190 = .ok (.iload 14, 2) := by decide +kernel
theorem dL_law_192 : decode cL_law 192 = .ok (.iload 13, 2) := by decide +kernel
theorem dL_law_194 : decode cL_law 194 = .ok (.if_icmp .eq 17, 3) := by decide +kernel
theorem dL_law_197 : decode cL_law 197 = .ok (.iload 13, 2) := by decide +kernel
theorem dL_law_199 : decode cL_law 199 = .ok (.ifCond .eq 12, 3) := by decide +kernel
theorem dL_law_202 : decode cL_law 202 = .ok (.aload_n 1, 1) := by decide +kernel
theorem dL_law_203 : decode cL_law 203 = .ok (.iload 13, 2) := by decide +kernel
theorem dL_law_205 : decode cL_law 205 = .ok (.invokestatic 82, 3) := by decide +kernel
theorem dL_law_208 : decode cL_law 208 = .ok (.ifCond .eq 24, 3) := by decide +kernel
theorem dL_law_211 : decode cL_law 211 = .ok (.iload 14, 2) := by decide +kernel
theorem dL_law_213 : decode cL_law 213 = .ok (.iload 13, 2) := by decide +kernel
theorem dL_law_215 : decode cL_law 215 = .ok (.if_icmp .eq 19, 3) := by decide +kernel
theorem dL_law_218 : decode cL_law 218 = .ok (.iload 14, 2) := by decide +kernel
theorem dL_law_220 : decode cL_law 220 = .ok (.ifCond .eq 14, 3) := by decide +kernel
theorem dL_law_223 : decode cL_law 223 = .ok (.aload_n 1, 1) := by decide +kernel
theorem dL_law_224 : decode cL_law 224 = .ok (.iload 14, 2) := by decide +kernel
theorem dL_law_226 : decode cL_law 226 = .ok (.invokestatic 82, 3) := by decide +kernel
theorem dL_law_229 : decode cL_law 229 = .ok (.ifCond .ne 5, 3) := by decide +kernel
theorem dL_law_232 : decode cL_law 232 = .ok (.iconst 0, 1) := by decide +kernel
theorem dL_law_233 : decode cL_law 233 = .ok (.ireturn, 1) := by decide +kernel
theorem dL_law_234 : decode cL_law 234 = .ok (.goto 460, 3) := by decide +kernel
theorem dL_law_237 : decode cL_law 237 = .ok (.iload 10, 2) := by decide +kernel
theorem dL_law_239 : decode cL_law 239 = .ok (.iconst 1, 1) := by decide +kernel
theorem dL_law_240 : decode cL_law 240 = .ok (.if_icmp .ne 133, 3) := by decide +kernel
theorem dL_law_243 : decode cL_law 243 = .ok (.iconst 1, 1) := by decide +kernel
theorem dL_law_244 : decode cL_law 244 = .ok (.iload 9, 2) := by decide +kernel
theorem dL_law_246 : decode cL_law 246 = .ok (.iconst 3, 1) := by decide +kernel
theorem dL_law_247 : decode cL_law 247 = .ok (.ishr, 1) := by decide +kernel
theorem dL_law_248 : decode cL_law 248 = .ok (.iload_n 3, 1) := by decide +kernel
theorem dL_law_249 : decode cL_law 249 = .ok (.iload 11, 2) := by decide +kernel
theorem dL_law_251 : decode cL_law 251 = .ok (.isub, 1) := by decide +kernel
theorem dL_law_252 : decode cL_law 252 = .ok (.invokestatic 61, 3) := by decide +kernel
theorem dL_law_255 : decode cL_law 255 = .ok (.iadd, 1) := by decide +kernel
theorem dL_law_256 : decode cL_law 256 = .ok (.istore 14, 2) := by decide +kernel
theorem dL_law_258 : decode cL_law 258 = .ok (.iconst 1, 1) := by decide +kernel
theorem dL_law_259 : decode cL_law 259 = .ok (.iload 9, 2) := by decide +kernel
theorem dL_law_261 : decode cL_law 261 = .ok (.bipush 7, 2) := by decide +kernel
theorem dL_law_263 : decode cL_law 263 = .ok (.ishr, 1) := by decide +kernel
theorem dL_law_264 : decode cL_law 264 = .ok (.iload 4, 2) := by decide +kernel
theorem dL_law_266 : decode cL_law 266 = .ok (.iload 12, 2) := by decide +kernel
theorem dL_law_268 : decode cL_law 268 = .ok (.isub, 1) := by decide +kernel
theorem dL_law_269 : decode cL_law 269 = .ok (.invokestatic 61, 3) := by decide +kernel
theorem dL_law_272 : decode cL_law 272 = .ok (.iadd, 1) := by decide +kernel
theorem dL_law_273 : decode cL_law 273 = .ok (.istore 15, 2) := by decide +kernel
theorem dL_law_275 : decode cL_law 275 = .ok (.iconst 0, 1) := by decide +kernel
theorem dL_law_276 : decode cL_law 276 = .ok (.istore 16, 2) := by decide +kernel
theorem dL_law_278 : decode cL_law 278 = .ok (.iconst 0, 1) := by decide +kernel
theorem dL_law_279 : decode cL_law 279 = .ok (.istore 17, 2) := by decide +kernel
theorem dL_law_281 : decode cL_law 281 = .ok (.iload 17, 2) := by decide +kernel
theorem dL_law_283 : decode cL_law 283 = .ok (.iload 14, 2) := by decide +kernel
theorem dL_law_285 : decode cL_law 285 = .ok (.iload 15, 2) := by decide +kernel
theorem dL_law_287 : decode cL_law 287 = .ok (.imul, 1) := by decide +kernel
theorem dL_law_288 : decode cL_law 288 = .ok (.if_icmp .ge 44, 3) := by decide +kernel
theorem dL_law_291 : decode cL_law 291 = .ok (.iload 16, 2) := by decide +kernel
theorem dL_law_293 : decode cL_law 293 = .ok (.aload_n 1, 1) := by decide +kernel
theorem dL_law_294 : decode cL_law 294 = .ok (.iload 11, 2) := by decide +kernel
theorem dL_law_296 : decode cL_law 296 = .ok (.iload 17, 2) := by decide +kernel
theorem dL_law_298 : decode cL_law 298 = .ok (.iload 14, 2) := by decide +kernel
theorem dL_law_300 : decode cL_law 300 = .ok (.irem, 1) := by decide +kernel
theorem dL_law_301 : decode cL_law 301 = .ok (.iadd, 1) := by decide +kernel
theorem dL_law_302 : decode cL_law 302 = .ok (.iload 12, 2) := by decide +kernel
theorem dL_law_304 : decode cL_law 304 = .ok (.iload 17, 2) := by decide +kernel
theorem dL_law_306 : decode cL_law 306 = .ok (.iload 14, 2) := by decide +kernel
theorem dL_law_308 : decode cL_law 308 = .ok (.idiv, 1) := by decide +kernel
theorem dL_law_309 : decode cL_law 309 = .ok (.iadd, 1) := by decide +kernel
theorem dL_law_310 : decode cL_law 310 = .ok (.invokevirtual 15, 3) := by decide +kernel
theorem dL_law_313 : decode cL_law 313 = .ok (.iload 13, 2) := by decide +kernel
theorem dL_law_315 : decode cL_law 315 = .ok (.if_icmp .ne 7, 3) := by decide +kernel
theorem dL_law_318 : decode cL_law 318 = .ok (.iconst 0, 1) := by decide +kernel
theorem dL_law_319 : decode cL_law 319 = .ok (.goto 4, 3) := by decide +kernel
theorem dL_law_322 : decode cL_law 322 = .ok (.iconst 1, 1) := by decide +kernel
theorem dL_law_323 : decode cL_law 323 = .ok (.iadd, 1) := by decide +kernel
theorem dL_law_324 : decode cL_law 324 = .ok (.istore 16, 2) := by decide +kernel
theorem dL_law_326 : decode cL_law 326 = .ok (.iinc 17 1, 3) := by decide +kernel
theorem dL_law_329 : decode cL_law 329 = .ok (.goto (-48), 3) := by decide +kernel
theorem dL_law_332 : decode cL_law 332 = .ok (.aload_n 1, 1) := by decide +kernel
theorem dL_law_333 : decode cL_law 333 = .ok (.iload 11, 2) := by decide +kernel
theorem dL_law_335 : decode cL_law 335 = .ok (.iload 12, 2) := by decide +kernel
theorem dL_law_337 : decode cL_law 337 = .ok (.iload 14, 2) := by decide +kernel
theorem dL_law_339 : decode cL_law 339 = .ok (.iload 15, 2) := by decide +kernel
theorem dL_law_341 : decode cL_law 341 = .ok (.iload 13, 2) := by decide +kernel
theorem dL_law_343 : decode cL_law 343 = .ok (.invokevirtual 102, 3) := by decide +kernel
theorem dL_law_346 : decode cL_law 346 = .ok (.iload 16, 2) := by decide +kernel
theorem dL_law_348 : decode cL_law 348 = .ok (.if_icmp .ne 20, 3) := by decide +kernel
theorem dL_law_351 : decode cL_law 351 = .ok (.aload_n 1, 1) := by decide +kernel
theorem dL_law_352 : decode cL_law 352 = .ok (.iload 11, 2) := by decide +kernel
theorem dL_law_354 : decode cL_law 354 = .ok (.iload 12, 2) := by decide +kernel
theorem dL_law_356 : decode cL_law 356 = .ok (.iload 14, 2) := by decide +kernel
theorem dL_law_358 : decode cL_law 358 = .ok (.iload 15, 2) := by decide +kernel
theorem dL_law_360 : decode cL_law 360 = .ok (.iload 13, 2) := by decide +kernel
theorem dL_law_362 : decode cL_law 362 = .ok (.invokevirtual 102, 3) := by decide +kernel
theorem dL_law_365 : decode cL_law 365 = .ok (.ifCond .eq 5, 3) := by decide +kernel
theorem dL_law_368 : decode cL_law 368 = .ok (.iconst 0, 1) := by decide +kernel
theorem dL_law_369 : decode cL_law 369 = .ok (.ireturn, 1) := by decide +kernel
theorem dL_law_370 : decode cL_law 370 = .ok (.goto 324, 3) := by decide +kernel
theorem dL_law_373 : decode cL_law 373 = .ok (.iload 10, 2) := by decide +kernel
theorem dL_law_375 : decode cL_law 375 = .ok (.iconst 2, 1) := by decide +kernel
theorem dL_law_376 : decode cL_law 376 = .ok (.if_icmp .ne 15, 3) := by decide +kernel
theorem dL_law_379 : decode cL_law 379 = .ok (.aload_n 1, 1) := by decide +kernel
theorem dL_law_380 : decode cL_law 380 = .ok (.iload_n 3, 1) := by decide +kernel
theorem dL_law_381 : decode cL_law 381 = .ok (.iload 4, 2) := by decide +kernel
theorem dL_law_383 : decode cL_law 383 = .ok (.invokestatic 120, 3) := by decide +kernel
theorem dL_law_386 : decode cL_law 386 = .ok (.ifCond .ne 308, 3) := by decide +kernel
theorem dL_law_389 : decode cL_law 389 = .ok (.iconst 0, 1) := by decide +kernel
theorem dL_law_390 : decode cL_law 390 = .ok (.ireturn, 1) := by decide +kernel
theorem dL_law_391 : decode cL_law 391 = .ok (.iload 10, 2) := by decide +kernel
theorem dL_law_393 : decode cL_law 393 = .ok (.iconst 3, 1) := by decide +kernel
theorem dL_law_394 : decode cL_law 394 = .ok (.if_icmp .ne 32, 3) := by decide +kernel
theorem dL_law_397 : decode cL_law 397 = .ok (.iconst 1, 1) := by decide +kernel
theorem dL_law_398 : decode cL_law 398 = .ok (.iload 9, 2) := by decide +kernel
theorem dL_law_400 : decode cL_law 400 = .ok (.bipush 20, 2) := by decide +kernel
theorem dL_law_402 : decode cL_law 402 = .ok (.invokestatic 61, 3) := by decide +kernel
theorem dL_law_405 : decode cL_law 405 = .ok (.iadd, 1) := by decide +kernel
theorem dL_law_406 : decode cL_law 406 = .ok (.istore 14, 2) := by decide +kernel
theorem dL_law_408 : decode cL_law 408 = .ok (.aload_n 1, 1) := by decide +kernel
theorem dL_law_409 : decode cL_law 409 = .ok (.iload 14, 2) := by decide +kernel
theorem dL_law_411 : decode cL_law 411 = .ok (.invokevirtual 38, 3) := by decide +kernel
theorem dL_law_414 : decode cL_law 414 = .ok (.istore 15, 2) := by decide +kernel
theorem dL_law_416 : decode cL_law 416 = .ok (.iload 15, 2) := by decide +kernel
theorem dL_law_418 : decode cL_law 418 = .ok (.ifCond .ge 5, 3) := by decide +kernel
theorem dL_law_421 : decode cL_law 421 = .ok (.iconst 0, 1) := by decide +kernel
theorem dL_law_422 : decode cL_law 422 = .ok (.ireturn, 1) := by decide +kernel
theorem dL_law_423 : decode cL_law 423 = .ok (.goto 271, 3) := by decide +kernel
theorem dL_law_426 : decode cL_law 426 = .ok (.iload 10, 2) := by decide +kernel
theorem dL_law_428 : decode cL_law 428 = .ok (.iconst 4, 1) := by decide +kernel
theorem dL_law_429 : decode cL_law 429 = .ok (.if_icmp .ne 53, 3) := by decide +kernel
theorem dL_law_432 : decode cL_law 432 = .ok (.sipush 1000, 3) := by decide +kernel
theorem dL_law_435 : decode cL_law 435 = .ok (.iload 6, 2) := by decide +kernel
theorem dL_law_437 : decode cL_law 437 = .ok (.imul, 1) := by decide +kernel
theorem dL_law_438 : decode cL_law 438 = .ok (.iload 5, 2) := by decide +kernel
theorem dL_law_440 : decode cL_law 440 = .ok (.iadd, 1) := by decide +kernel
theorem dL_law_441 : decode cL_law 441 = .ok (.istore 14, 2) := by decide +kernel
theorem dL_law_443 : decode cL_law 443 = .ok (.iload 9, 2) := by decide +kernel
theorem dL_law_445 : decode cL_law 445 = .ok (.bipush 120, 2) := by decide +kernel
theorem dL_law_447 : decode cL_law 447 = .ok (.invokestatic 61, 3) := by decide +kernel
theorem dL_law_450 : decode cL_law 450 = .ok (.istore 5, 2) := by decide +kernel
theorem dL_law_452 : decode cL_law 452 = .ok (.iload 9, 2) := by decide +kernel
theorem dL_law_454 : decode cL_law 454 = .ok (.bipush 8, 2) := by decide +kernel
theorem dL_law_456 : decode cL_law 456 = .ok (.ishr, 1) := by decide +kernel
theorem dL_law_457 : decode cL_law 457 = .ok (.bipush 60, 2) := by decide +kernel
theorem dL_law_459 : decode cL_law 459 = .ok (.invokestatic 61, 3) := by decide +kernel
theorem dL_law_462 : decode cL_law 462 = .ok (.istore 6, 2) := by decide +kernel
theorem dL_law_464 : decode cL_law 464 = .ok (.aload_n 1, 1) := by decide +kernel
theorem dL_law_465 : decode cL_law 465 = .ok (.iload 5, 2) := by decide +kernel
theorem dL_law_467 : decode cL_law 467 = .ok (.iload 6, 2) := by decide +kernel
theorem dL_law_469 : decode cL_law 469 = .ok (.invokevirtual 106, 3) := by decide +kernel
theorem dL_law_472 : decode cL_law 472 = .ok (.iload 14, 2) := by decide +kernel
theorem dL_law_474 : decode cL_law 474 = .ok (.if_icmp .eq 5, 3) := by decide +kernel
theorem dL_law_477 : decode cL_law 477 = .ok (.iconst 0, 1) := by decide +kernel
theorem dL_law_478 : decode cL_law 478 = .ok (.ireturn, 1) := by decide +kernel
theorem dL_law_479 : decode cL_law 479 = .ok (.goto 215, 3) := by decide +kernel
theorem dL_law_482 : decode cL_law 482 = .ok (.iload 10, 2) := by decide +kernel
theorem dL_law_484 : decode cL_law 484 = .ok (.iconst 5, 1) := by decide +kernel
theorem dL_law_485 : decode cL_law 485 = .ok (.if_icmp .ne 25, 3) := by decide +kernel
theorem dL_law_488 : decode cL_law 488 = .ok (.aload_n 1, 1) := by decide +kernel
theorem dL_law_489 : decode cL_law 489 = .ok (.iconst 1, 1) := by decide +kernel
theorem dL_law_490 : decode cL_law 490 = .ok (.iload 9, 2) := by decide +kernel
theorem dL_law_492 : decode cL_law 492 = .ok (.bipush 6, 2) := by decide +kernel
theorem dL_law_494 : decode cL_law 494 = .ok (.invokestatic 61, 3) := by decide +kernel
theorem dL_law_497 : decode cL_law 497 = .ok (.iadd, 1) := by decide +kernel
theorem dL_law_498 : decode cL_law 498 = .ok (.iload 8, 2) := by decide +kernel
theorem dL_law_500 : decode cL_law 500 = .ok (.iconst 4, 1) := by decide +kernel
theorem dL_law_501 : decode cL_law 501 = .ok (.ishr, 1) := by decide +kernel
theorem dL_law_502 : decode cL_law 502 = .ok (.invokestatic 124, 3) := by decide +kernel
theorem dL_law_505 : decode cL_law 505 = .ok (.ifCond .ne 189, 3) := by decide +kernel
theorem dL_law_508 : decode cL_law 508 = .ok (.iconst 0, 1) := by decide +kernel
theorem dL_law_509 : decode cL_law 509 = .ok (.ireturn, 1) := by decide +kernel
theorem dL_law_510 : decode cL_law 510 = .ok (.iload 10, 2) := by decide +kernel
theorem dL_law_512 : decode cL_law 512 = .ok (.bipush 6, 2) := by decide +kernel
theorem dL_law_514 : decode cL_law 514 = .ok (.if_icmp .ne 24, 3) := by decide +kernel
theorem dL_law_517 : decode cL_law 517 = .ok (.aload_n 1, 1) := by decide +kernel
theorem dL_law_518 : decode cL_law 518 = .ok (.iload_n 3, 1) := by decide +kernel
theorem dL_law_519 : decode cL_law 519 = .ok (.iload 4, 2) := by decide +kernel
theorem dL_law_521 : decode cL_law 521 = .ok (.iconst 1, 1) := by decide +kernel
theorem dL_law_522 : decode cL_law 522 = .ok (.iload 9, 2) := by decide +kernel
theorem dL_law_524 : decode cL_law 524 = .ok (.bipush 6, 2) := by decide +kernel
theorem dL_law_526 : decode cL_law 526 = .ok (.invokestatic 61, 3) := by decide +kernel
theorem dL_law_529 : decode cL_law 529 = .ok (.iadd, 1) := by decide +kernel
theorem dL_law_530 : decode cL_law 530 = .ok (.invokestatic 127, 3) := by decide +kernel
theorem dL_law_533 : decode cL_law 533 = .ok (.ifCond .ne 161, 3) := by decide +kernel
theorem dL_law_536 : decode cL_law 536 = .ok (.iconst 0, 1) := by decide +kernel
theorem dL_law_537 : decode cL_law 537 = .ok (.ireturn, 1) := by decide +kernel
theorem dL_law_538 : decode cL_law 538 = .ok (.iload 10, 2) := by decide +kernel
theorem dL_law_540 : decode cL_law 540 = .ok (.bipush 7, 2) := by decide +kernel
theorem dL_law_542 : decode cL_law 542 = .ok (.if_icmp .ne 110, 3) := by decide +kernel
theorem dL_law_545 : decode cL_law 545 = .ok (.iload 9, 2) := by decide +kernel
theorem dL_law_547 : decode cL_law 547 = .ok (.iconst 4, 1) := by decide +kernel
theorem dL_law_548 : decode cL_law 548 = .ok (.ishr, 1) := by decide +kernel
theorem dL_law_549 : decode cL_law 549 = .ok (.iconst 1, 1) := by decide +kernel
theorem dL_law_550 : decode cL_law 550 = .ok (.iand, 1) := by decide +kernel
theorem dL_law_551 : decode cL_law 551 = .ok (.ifCond .ne 7, 3) := by decide +kernel
theorem dL_law_554 : decode cL_law 554 = .ok (.iconst 1, 1) := by decide +kernel
theorem dL_law_555 : decode cL_law 555 = .ok (.goto 4, 3) := by decide +kernel
theorem dL_law_558 : decode cL_law 558 = .ok (.iconst 0, 1) := by decide +kernel
theorem dL_law_559 : decode cL_law 559 = .ok (.istore 14, 2) := by decide +kernel
theorem dL_law_561 : decode cL_law 561 = .ok (.aload_n 1, 1) := by decide +kernel
theorem dL_law_562 : decode cL_law 562 = .ok (.iload 11, 2) := by decide +kernel
theorem dL_law_564 : decode cL_law 564 = .ok (.iload 12, 2) := by decide +kernel
theorem dL_law_566 : decode cL_law 566 = .ok (.iload 14, 2) := by decide +kernel
theorem dL_law_568 : decode cL_law 568 = .ok (.invokevirtual 41, 3) := by decide +kernel
theorem dL_law_571 : decode cL_law 571 = .ok (.istore 15, 2) := by decide +kernel
theorem dL_law_573 : decode cL_law 573 = .ok (.iload 9, 2) := by decide +kernel
theorem dL_law_575 : decode cL_law 575 = .ok (.iconst 5, 1) := by decide +kernel
theorem dL_law_576 : decode cL_law 576 = .ok (.ishr, 1) := by decide +kernel
theorem dL_law_577 : decode cL_law 577 = .ok (.iconst 3, 1) := by decide +kernel
theorem dL_law_578 : decode cL_law 578 = .ok (.iand, 1) := by decide +kernel
theorem dL_law_579 : decode cL_law 579 = .ok (.ifCond .le 7, 3) := by decide +kernel
theorem dL_law_582 : decode cL_law 582 = .ok (.iconst 1, 1) := by decide +kernel
theorem dL_law_583 : decode cL_law 583 = .ok (.goto 4, 3) := by decide +kernel
theorem dL_law_586 : decode cL_law 586 = .ok (.iconst 0, 1) := by decide +kernel
theorem dL_law_587 : decode cL_law 587 = .ok (.istore 16, 2) := by decide +kernel
theorem dL_law_589 : decode cL_law 589 = .ok (.aload_n 1, 1) := by decide +kernel
theorem dL_law_590 : decode cL_law 590 = .ok (.iload 11, 2) := by decide +kernel
theorem dL_law_592 : decode cL_law 592 = .ok (.iload 12, 2) := by decide +kernel
theorem dL_law_594 : decode cL_law 594 = .ok (.iload 14, 2) := by decide +kernel
theorem dL_law_596 : decode cL_law 596 = .ok (.iload 16, 2) := by decide +kernel
theorem dL_law_598 : decode cL_law 598 = .ok (.invokevirtual 112, 3) := by decide +kernel
theorem dL_law_601 : decode cL_law 601 = .ok (.iload 15, 2) := by decide +kernel
theorem dL_law_603 : decode cL_law 603 = .ok (.iload 16, 2) := by decide +kernel
theorem dL_law_605 : decode cL_law 605 = .ok (.ifCond .eq 7, 3) := by decide +kernel
theorem dL_law_608 : decode cL_law 608 = .ok (.iconst 1, 1) := by decide +kernel
theorem dL_law_609 : decode cL_law 609 = .ok (.goto 4, 3) := by decide +kernel
theorem dL_law_612 : decode cL_law 612 = .ok (.iconst 0, 1) := by decide +kernel
theorem dL_law_613 : decode cL_law 613 = .ok (.if_icmp .ne 7, 3) := by decide +kernel
theorem dL_law_616 : decode cL_law 616 = .ok (.iconst 0, 1) := by decide +kernel
theorem dL_law_617 : decode cL_law 617 = .ok (.goto 4, 3) := by decide +kernel
theorem dL_law_620 : decode cL_law 620 = .ok (.iconst 1, 1) := by decide +kernel
theorem dL_law_621 : decode cL_law 621 = .ok (.if_icmp .ne 26, 3) := by decide +kernel
theorem dL_law_624 : decode cL_law 624 = .ok (.aload_n 1, 1) := by decide +kernel
theorem dL_law_625 : decode cL_law 625 = .ok (.iload 11, 2) := by decide +kernel
theorem dL_law_627 : decode cL_law 627 = .ok (.iload 12, 2) := by decide +kernel
theorem dL_law_629 : decode cL_law 629 = .ok (.iload 14, 2) := by decide +kernel
theorem dL_law_631 : decode cL_law 631 = .ok (.invokevirtual 41, 3) := by decide +kernel
theorem dL_law_634 : decode cL_law 634 = .ok (.iload 16, 2) := by decide +kernel
theorem dL_law_636 : decode cL_law 636 = .ok (.ifCond .eq 7, 3) := by decide +kernel
theorem dL_law_639 : decode cL_law 639 = .ok (.iconst 1, 1) := by decide +kernel
theorem dL_law_640 : decode cL_law 640 = .ok (.goto 4, 3) := by decide +kernel
theorem dL_law_643 : decode cL_law 643 = .ok (.iconst 0, 1) := by decide +kernel
theorem dL_law_644 : decode cL_law 644 = .ok (.if_icmp .eq 5, 3) := by decide +kernel
theorem dL_law_647 : decode cL_law 647 = .ok (.iconst 0, 1) := by decide +kernel
theorem dL_law_648 : decode cL_law 648 = .ok (.ireturn, 1) := by decide +kernel
theorem dL_law_649 : decode cL_law 649 = .ok (.goto 45, 3) := by decide +kernel
theorem dL_law_652 : decode cL_law 652 = .ok (.aload_n 1, 1) := by decide +kernel
theorem dL_law_653 : decode cL_law 653 = .ok (.iconst 4, 1) := by decide +kernel
theorem dL_law_654 : decode cL_law 654 = .ok (.iload 9, 2) := by decide +kernel
theorem dL_law_656 : decode cL_law 656 = .ok (.bipush 9, 2) := by decide +kernel
theorem dL_law_658 : decode cL_law 658 = .ok (.invokestatic 61, 3) := by decide +kernel
theorem dL_law_661 : decode cL_law 661 = .ok (.iadd, 1) := by decide +kernel
theorem dL_law_662 : decode cL_law 662 = .ok (.iconst 4, 1) := by decide +kernel
theorem dL_law_663 : decode cL_law 663 = .ok (.iload 9, 2) := by decide +kernel
theorem dL_law_665 : decode cL_law 665 = .ok (.iconst 5, 1) := by decide +kernel
theorem dL_law_666 : decode cL_law 666 = .ok (.ishr, 1) := by decide +kernel
theorem dL_law_667 : decode cL_law 667 = .ok (.bipush 6, 2) := by decide +kernel
theorem dL_law_669 : decode cL_law 669 = .ok (.invokestatic 61, 3) := by decide +kernel
theorem dL_law_672 : decode cL_law 672 = .ok (.iadd, 1) := by decide +kernel
theorem dL_law_673 : decode cL_law 673 = .ok (.iload 9, 2) := by decide +kernel
theorem dL_law_675 : decode cL_law 675 = .ok (.bipush 9, 2) := by decide +kernel
theorem dL_law_677 : decode cL_law 677 = .ok (.ishr, 1) := by decide +kernel
theorem dL_law_678 : decode cL_law 678 = .ok (.iconst 4, 1) := by decide +kernel
theorem dL_law_679 : decode cL_law 679 = .ok (.invokestatic 61, 3) := by decide +kernel
theorem dL_law_682 : decode cL_law 682 = .ok (.invokevirtual 109, 3) := by decide +kernel
theorem dL_law_685 : decode cL_law 685 = .ok (.aload_n 1, 1) := by decide +kernel
theorem dL_law_686 : decode cL_law 686 = .ok (.invokevirtual 58, 3) := by decide +kernel
theorem dL_law_689 : decode cL_law 689 = .ok (.if_icmp .eq 5, 3) := by decide +kernel
theorem dL_law_692 : decode cL_law 692 = .ok (.iconst 0, 1) := by decide +kernel
theorem dL_law_693 : decode cL_law 693 = .ok (.ireturn, 1) := by decide +kernel
theorem dL_law_694 : decode cL_law 694 = .ok (.aload_n 1, 1) := by decide +kernel
theorem dL_law_695 : decode cL_law 695 = .ok (.iload_n 3, 1) := by decide +kernel
theorem dL_law_696 : decode cL_law 696 = .ok (.iload 4, 2) := by decide +kernel
theorem dL_law_698 : decode cL_law 698 = .ok (.iload 5, 2) := by decide +kernel
theorem dL_law_700 : decode cL_law 700 = .ok (.iload 6, 2) := by decide +kernel
theorem dL_law_702 : decode cL_law 702 = .ok (.invokestatic 131, 3) := by decide +kernel
theorem dL_law_705 : decode cL_law 705 = .ok (.ifCond .eq 44, 3) := by decide +kernel
theorem dL_law_708 : decode cL_law 708 = .ok (.aload_n 1, 1) := by decide +kernel
theorem dL_law_709 : decode cL_law 709 = .ok (.iload_n 3, 1) := by decide +kernel
theorem dL_law_710 : decode cL_law 710 = .ok (.iload 4, 2) := by decide +kernel
theorem dL_law_712 : decode cL_law 712 = .ok (.invokestatic 135, 3) := by decide +kernel
theorem dL_law_715 : decode cL_law 715 = .ok (.ifCond .eq 34, 3) := by decide +kernel
theorem dL_law_718 : decode cL_law 718 = .ok (.iload 7, 2) := by decide +kernel
theorem dL_law_720 : decode cL_law 720 = .ok (.iconst 3, 1) := by decide +kernel
theorem dL_law_721 : decode cL_law 721 = .ok (.irem, 1) := by decide +kernel
theorem dL_law_722 : decode cL_law 722 = .ok (.ifCond .ne 29, 3) := by decide +kernel
theorem dL_law_725 : decode cL_law 725 = .ok (.aload_n 1, 1) := by decide +kernel
theorem dL_law_726 : decode cL_law 726 = .ok (.iload_n 3, 1) := by decide +kernel
theorem dL_law_727 : decode cL_law 727 = .ok (.iload 4, 2) := by decide +kernel
theorem dL_law_729 : decode cL_law 729 = .ok (.iload 6, 2) := by decide +kernel
theorem dL_law_731 : decode cL_law 731 = .ok (.invokestatic 138, 3) := by decide +kernel
theorem dL_law_734 : decode cL_law 734 = .ok (.ifCond .eq 15, 3) := by decide +kernel
theorem dL_law_737 : decode cL_law 737 = .ok (.aload_n 1, 1) := by decide +kernel
theorem dL_law_738 : decode cL_law 738 = .ok (.iload_n 3, 1) := by decide +kernel
theorem dL_law_739 : decode cL_law 739 = .ok (.iload 4, 2) := by decide +kernel
theorem dL_law_741 : decode cL_law 741 = .ok (.iload 9, 2) := by decide +kernel
theorem dL_law_743 : decode cL_law 743 = .ok (.invokestatic 140, 3) := by decide +kernel
theorem dL_law_746 : decode cL_law 746 = .ok (.ifCond .ne 5, 3) := by decide +kernel
theorem dL_law_749 : decode cL_law 749 = .ok (.iconst 0, 1) := by decide +kernel
theorem dL_law_750 : decode cL_law 750 = .ok (.ireturn, 1) := by decide +kernel
theorem dL_law_751 : decode cL_law 751 = .ok (.iinc 7 1, 3) := by decide +kernel
theorem dL_law_754 : decode cL_law 754 = .ok (.goto (-692), 3) := by decide +kernel
theorem dL_law_757 : decode cL_law 757 = .ok (.iload_n 3, 1) := by decide +kernel
theorem dL_law_758 : decode cL_law 758 = .ok (.bipush 24, 2) := by decide +kernel
theorem dL_law_760 : decode cL_law 760 = .ok (.if_icmp .ge 14, 3) := by decide +kernel
theorem dL_law_763 : decode cL_law 763 = .ok (.aload_n 1, 1) := by decide +kernel
theorem dL_law_764 : decode cL_law 764 = .ok (.iload_n 2, 1) := by decide +kernel
theorem dL_law_765 : decode cL_law 765 = .ok (.bipush 9, 2) := by decide +kernel
theorem dL_law_767 : decode cL_law 767 = .ok (.ishr, 1) := by decide +kernel
theorem dL_law_768 : decode cL_law 768 = .ok (.invokestatic 142, 3) := by decide +kernel
theorem dL_law_771 : decode cL_law 771 = .ok (.ifCond .eq 17, 3) := by decide +kernel
theorem dL_law_774 : decode cL_law 774 = .ok (.aload_n 1, 1) := by decide +kernel
theorem dL_law_775 : decode cL_law 775 = .ok (.iload_n 3, 1) := by decide +kernel
theorem dL_law_776 : decode cL_law 776 = .ok (.iload 4, 2) := by decide +kernel
theorem dL_law_778 : decode cL_law 778 = .ok (.invokestatic 145, 3) := by decide +kernel
theorem dL_law_781 : decode cL_law 781 = .ok (.ifCond .eq 7, 3) := by decide +kernel
theorem dL_law_784 : decode cL_law 784 = .ok (.iconst 1, 1) := by decide +kernel
theorem dL_law_785 : decode cL_law 785 = .ok (.goto 4, 3) := by decide +kernel
theorem dL_law_788 : decode cL_law 788 = .ok (.iconst 0, 1) := by decide +kernel
theorem dL_law_789 : decode cL_law 789 = .ok (.ireturn, 1) := by decide +kernel
