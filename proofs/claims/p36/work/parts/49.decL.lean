theorem dL_cell_0 : decode cL_cell 0 = .ok (.iload_n 1, 1) := by decide +kernel
theorem dL_cell_1 : decode cL_cell 1 = .ok (.aload_n 0, 1) := by decide +kernel
theorem dL_cell_2 : decode cL_cell 2 = .ok (.arraylength, 1) := by decide +kernel
theorem dL_cell_3 : decode cL_cell 3 = .ok (.if_icmp .ge 9, 3) := by decide +kernel
theorem dL_cell_6 : decode cL_cell 6 = .ok (.aload_n 0, 1) := by decide +kernel
theorem dL_cell_7 : decode cL_cell 7 = .ok (.iload_n 1, 1) := by decide +kernel
theorem dL_cell_8 : decode cL_cell 8 = .ok (.iaload, 1) := by decide +kernel
theorem dL_cell_9 : decode cL_cell 9 = .ok (.goto 11, 3) := by decide +kernel
theorem dL_cell_12 : decode cL_cell 12 = .ok (.ldc 7, 2) := by decide +kernel
theorem dL_cell_14 : decode cL_cell 14 = .ok (.iload_n 1, 1) := by decide +kernel
theorem dL_cell_15 : decode cL_cell 15 = .ok (.imul, 1) := by decide +kernel
theorem dL_cell_16 : decode cL_cell 16 = .ok (.sipush 227, 3) := by decide +kernel
theorem dL_cell_19 : decode cL_cell 19 = .ok (.iadd, 1) := by decide +kernel
theorem dL_cell_20 : decode cL_cell 20 = .ok (.ireturn, 1) := by decide +kernel
theorem dL_low_0 : decode cL_low 0 = .ok (.iload_n 0, 1) := by decide +kernel
theorem dL_low_1 : decode cL_low 1 = .ok (.ldc 8, 2) := by decide +kernel
theorem dL_low_3 : decode cL_low 3 = .ok (.iand, 1) := by decide +kernel
theorem dL_low_4 : decode cL_low 4 = .ok (.iload_n 1, 1) := by decide +kernel
theorem dL_low_5 : decode cL_low 5 = .ok (.irem, 1) := by decide +kernel
theorem dL_low_6 : decode cL_low 6 = .ok (.ireturn, 1) := by decide +kernel
theorem dL_call_0 : decode cL_call 0 = .ok (.iload_n 1, 1) := by decide +kernel
theorem dL_call_1 : decode cL_call 1 = .ok (.tableswitch 289 0 25 #[119, 125, 132, 138, 144, 150, 156, 162, 169, 179, 185, 191, 197, 203, 210, 217, 223, 229, 236, 243, 249, 258, 264, 270, 276, 283], 119) := by decide +kernel
theorem dL_call_120 : decode cL_call 120 = .ok (.aload_n 0, 1) := by decide +kernel
theorem dL_call_121 : decode cL_call 121 = .ok (.iload_n 2, 1) := by decide +kernel
theorem dL_call_122 : decode cL_call 122 = .ok (.invokevirtual 9, 3) := by decide +kernel
theorem dL_call_125 : decode cL_call 125 = .ok (.ireturn, 1) := by decide +kernel
theorem dL_call_126 : decode cL_call 126 = .ok (.aload_n 0, 1) := by decide +kernel
theorem dL_call_127 : decode cL_call 127 = .ok (.iload_n 2, 1) := by decide +kernel
theorem dL_call_128 : decode cL_call 128 = .ok (.iload_n 3, 1) := by decide +kernel
theorem dL_call_129 : decode cL_call 129 = .ok (.invokevirtual 15, 3) := by decide +kernel
theorem dL_call_132 : decode cL_call 132 = .ok (.ireturn, 1) := by decide +kernel
theorem dL_call_133 : decode cL_call 133 = .ok (.aload_n 0, 1) := by decide +kernel
theorem dL_call_134 : decode cL_call 134 = .ok (.iload_n 2, 1) := by decide +kernel
theorem dL_call_135 : decode cL_call 135 = .ok (.invokevirtual 19, 3) := by decide +kernel
theorem dL_call_138 : decode cL_call 138 = .ok (.ireturn, 1) := by decide +kernel
theorem dL_call_139 : decode cL_call 139 = .ok (.aload_n 0, 1) := by decide +kernel
theorem dL_call_140 : decode cL_call 140 = .ok (.iload_n 2, 1) := by decide +kernel
theorem dL_call_141 : decode cL_call 141 = .ok (.invokevirtual 22, 3) := by decide +kernel
theorem dL_call_144 : decode cL_call 144 = .ok (.ireturn, 1) := by decide +kernel
theorem dL_call_145 : decode cL_call 145 = .ok (.aload_n 0, 1) := by decide +kernel
theorem dL_call_146 : decode cL_call 146 = .ok (.iload_n 2, 1) := by decide +kernel
theorem dL_call_147 : decode cL_call 147 = .ok (.invokevirtual 25, 3) := by decide +kernel
theorem dL_call_150 : decode cL_call 150 = .ok (.ireturn, 1) := by decide +kernel
theorem dL_call_151 : decode cL_call 151 = .ok (.aload_n 0, 1) := by decide +kernel
theorem dL_call_152 : decode cL_call 152 = .ok (.iload_n 2, 1) := by decide +kernel
theorem dL_call_153 : decode cL_call 153 = .ok (.invokevirtual 28, 3) := by decide +kernel
theorem dL_call_156 : decode cL_call 156 = .ok (.ireturn, 1) := by decide +kernel
theorem dL_call_157 : decode cL_call 157 = .ok (.aload_n 0, 1) := by decide +kernel
theorem dL_call_158 : decode cL_call 158 = .ok (.iload_n 2, 1) := by decide +kernel
theorem dL_call_159 : decode cL_call 159 = .ok (.invokevirtual 31, 3) := by decide +kernel
theorem dL_call_162 : decode cL_call 162 = .ok (.ireturn, 1) := by decide +kernel
theorem dL_call_163 : decode cL_call 163 = .ok (.aload_n 0, 1) := by decide +kernel
theorem dL_call_164 : decode cL_call 164 = .ok (.iload_n 2, 1) := by decide +kernel
theorem dL_call_165 : decode cL_call 165 = .ok (.iload_n 3, 1) := by decide +kernel
theorem dL_call_166 : decode cL_call 166 = .ok (.invokevirtual 34, 3) := by decide +kernel
theorem dL_call_169 : decode cL_call 169 = .ok (.ireturn, 1) := by decide +kernel
theorem dL_call_170 : decode cL_call 170 = .ok (.aload_n 0, 1) := by decide +kernel
theorem dL_call_171 : decode cL_call 171 = .ok (.iload_n 2, 1) := by decide +kernel
theorem dL_call_172 : decode cL_call 172 = .ok (.iload_n 3, 1) := by decide +kernel
theorem dL_call_173 : decode cL_call 173 = .ok (.i2c, 1) := by decide +kernel
theorem dL_call_174 : decode cL_call 174 = .ok (.iload 4, 2) := by decide +kernel
theorem dL_call_176 : decode cL_call 176 = .ok (.invokevirtual 37, 3) := by decide +kernel
theorem dL_call_179 : decode cL_call 179 = .ok (.ireturn, 1) := by decide +kernel
theorem dL_call_180 : decode cL_call 180 = .ok (.aload_n 0, 1) := by decide +kernel
theorem dL_call_181 : decode cL_call 181 = .ok (.iload_n 2, 1) := by decide +kernel
theorem dL_call_182 : decode cL_call 182 = .ok (.invokevirtual 41, 3) := by decide +kernel
theorem dL_call_185 : decode cL_call 185 = .ok (.ireturn, 1) := by decide +kernel
theorem dL_call_186 : decode cL_call 186 = .ok (.aload_n 0, 1) := by decide +kernel
theorem dL_call_187 : decode cL_call 187 = .ok (.iload_n 2, 1) := by decide +kernel
theorem dL_call_188 : decode cL_call 188 = .ok (.invokevirtual 44, 3) := by decide +kernel
theorem dL_call_191 : decode cL_call 191 = .ok (.ireturn, 1) := by decide +kernel
theorem dL_call_192 : decode cL_call 192 = .ok (.aload_n 0, 1) := by decide +kernel
theorem dL_call_193 : decode cL_call 193 = .ok (.iload_n 2, 1) := by decide +kernel
theorem dL_call_194 : decode cL_call 194 = .ok (.invokevirtual 48, 3) := by decide +kernel
theorem dL_call_197 : decode cL_call 197 = .ok (.ireturn, 1) := by decide +kernel
theorem dL_call_198 : decode cL_call 198 = .ok (.aload_n 0, 1) := by decide +kernel
theorem dL_call_199 : decode cL_call 199 = .ok (.iload_n 2, 1) := by decide +kernel
theorem dL_call_200 : decode cL_call 200 = .ok (.invokevirtual 51, 3) := by decide +kernel
theorem dL_call_203 : decode cL_call 203 = .ok (.ireturn, 1) := by decide +kernel
theorem dL_call_204 : decode cL_call 204 = .ok (.aload_n 0, 1) := by decide +kernel
theorem dL_call_205 : decode cL_call 205 = .ok (.iload_n 2, 1) := by decide +kernel
theorem dL_call_206 : decode cL_call 206 = .ok (.iload_n 3, 1) := by decide +kernel
theorem dL_call_207 : decode cL_call 207 = .ok (.invokevirtual 54, 3) := by decide +kernel
theorem dL_call_210 : decode cL_call 210 = .ok (.ireturn, 1) := by decide +kernel
theorem dL_call_211 : decode cL_call 211 = .ok (.aload_n 0, 1) := by decide +kernel
theorem dL_call_212 : decode cL_call 212 = .ok (.iload_n 2, 1) := by decide +kernel
theorem dL_call_213 : decode cL_call 213 = .ok (.iload_n 3, 1) := by decide +kernel
theorem dL_call_214 : decode cL_call 214 = .ok (.invokevirtual 58, 3) := by decide +kernel
theorem dL_call_217 : decode cL_call 217 = .ok (.ireturn, 1) := by decide +kernel
theorem dL_call_218 : decode cL_call 218 = .ok (.aload_n 0, 1) := by decide +kernel
theorem dL_call_219 : decode cL_call 219 = .ok (.iload_n 2, 1) := by decide +kernel
theorem dL_call_220 : decode cL_call 220 = .ok (.invokevirtual 61, 3) := by decide +kernel
theorem dL_call_223 : decode cL_call 223 = .ok (.ireturn, 1) := by decide +kernel
theorem dL_call_224 : decode cL_call 224 = .ok (.aload_n 0, 1) := by decide +kernel
theorem dL_call_225 : decode cL_call 225 = .ok (.iload_n 2, 1) := by decide +kernel
theorem dL_call_226 : decode cL_call 226 = .ok (.invokevirtual 64, 3) := by decide +kernel
theorem dL_call_229 : decode cL_call 229 = .ok (.ireturn, 1) := by decide +kernel
theorem dL_call_230 : decode cL_call 230 = .ok (.aload_n 0, 1) := by decide +kernel
theorem dL_call_231 : decode cL_call 231 = .ok (.iload_n 2, 1) := by decide +kernel
theorem dL_call_232 : decode cL_call 232 = .ok (.iload_n 3, 1) := by decide +kernel
theorem dL_call_233 : decode cL_call 233 = .ok (.invokevirtual 67, 3) := by decide +kernel
theorem dL_call_236 : decode cL_call 236 = .ok (.ireturn, 1) := by decide +kernel
theorem dL_call_237 : decode cL_call 237 = .ok (.aload_n 0, 1) := by decide +kernel
theorem dL_call_238 : decode cL_call 238 = .ok (.iload_n 2, 1) := by decide +kernel
theorem dL_call_239 : decode cL_call 239 = .ok (.iload_n 3, 1) := by decide +kernel
theorem dL_call_240 : decode cL_call 240 = .ok (.invokevirtual 70, 3) := by decide +kernel
theorem dL_call_243 : decode cL_call 243 = .ok (.ireturn, 1) := by decide +kernel
theorem dL_call_244 : decode cL_call 244 = .ok (.aload_n 0, 1) := by decide +kernel
theorem dL_call_245 : decode cL_call 245 = .ok (.iload_n 2, 1) := by decide +kernel
theorem dL_call_246 : decode cL_call 246 = .ok (.invokevirtual 73, 3) := by decide +kernel
theorem dL_call_249 : decode cL_call 249 = .ok (.ireturn, 1) := by decide +kernel
theorem dL_call_250 : decode cL_call 250 = .ok (.aload_n 0, 1) := by decide +kernel
theorem dL_call_251 : decode cL_call 251 = .ok (.iload_n 2, 1) := by decide +kernel
theorem dL_call_252 : decode cL_call 252 = .ok (.iload_n 3, 1) := by decide +kernel
theorem dL_call_253 : decode cL_call 253 = .ok (.iload 4, 2) := by decide +kernel
theorem dL_call_255 : decode cL_call 255 = .ok (.invokevirtual 76, 3) := by decide +kernel
theorem dL_call_258 : decode cL_call 258 = .ok (.ireturn, 1) := by decide +kernel
theorem dL_call_259 : decode cL_call 259 = .ok (.aload_n 0, 1) := by decide +kernel
theorem dL_call_260 : decode cL_call 260 = .ok (.iload_n 2, 1) := by decide +kernel
theorem dL_call_261 : decode cL_call 261 = .ok (.invokevirtual 80, 3) := by decide +kernel
theorem dL_call_264 : decode cL_call 264 = .ok (.ireturn, 1) := by decide +kernel
theorem dL_call_265 : decode cL_call 265 = .ok (.aload_n 0, 1) := by decide +kernel
theorem dL_call_266 : decode cL_call 266 = .ok (.iload_n 2, 1) := by decide +kernel
theorem dL_call_267 : decode cL_call 267 = .ok (.invokevirtual 83, 3) := by decide +kernel
theorem dL_call_270 : decode cL_call 270 = .ok (.ireturn, 1) := by decide +kernel
theorem dL_call_271 : decode cL_call 271 = .ok (.aload_n 0, 1) := by decide +kernel
theorem dL_call_272 : decode cL_call 272 = .ok (.iload_n 2, 1) := by decide +kernel
theorem dL_call_273 : decode cL_call 273 = .ok (.invokevirtual 86, 3) := by decide +kernel
theorem dL_call_276 : decode cL_call 276 = .ok (.ireturn, 1) := by decide +kernel
theorem dL_call_277 : decode cL_call 277 = .ok (.aload_n 0, 1) := by decide +kernel
theorem dL_call_278 : decode cL_call 278 = .ok (.iload_n 2, 1) := by decide +kernel
theorem dL_call_279 : decode cL_call 279 = .ok (.iload_n 3, 1) := by decide +kernel
theorem dL_call_280 : decode cL_call 280 = .ok (.invokevirtual 89, 3) := by decide +kernel
theorem dL_call_283 : decode cL_call 283 = .ok (.ireturn, 1) := by decide +kernel
theorem dL_call_284 : decode cL_call 284 = .ok (.aload_n 0, 1) := by decide +kernel
theorem dL_call_285 : decode cL_call 285 = .ok (.iload_n 2, 1) := by decide +kernel
theorem dL_call_286 : decode cL_call 286 = .ok (.invokevirtual 92, 3) := by decide +kernel
theorem dL_call_289 : decode cL_call 289 = .ok (.ireturn, 1) := by decide +kernel
theorem dL_call_290 : decode cL_call 290 = .ok (.aload_n 0, 1) := by decide +kernel
theorem dL_call_291 : decode cL_call 291 = .ok (.iload_n 2, 1) := by decide +kernel
theorem dL_call_292 : decode cL_call 292 = .ok (.invokevirtual 95, 3) := by decide +kernel
theorem dL_call_295 : decode cL_call 295 = .ok (.ireturn, 1) := by decide +kernel
theorem dL_call_296 : decode cL_call 296 = .ok (.astore 5, 2) := by decide +kernel
theorem dL_call_298 : decode cL_call 298 = .ok (.sipush (-1001), 3) := by decide +kernel
theorem dL_call_301 : decode cL_call 301 = .ok (.ireturn, 1) := by decide +kernel
theorem dL_call_302 : decode cL_call 302 = .ok (.astore 5, 2) := by decide +kernel
theorem dL_call_304 : decode cL_call 304 = .ok (.sipush (-1002), 3) := by decide +kernel
theorem dL_call_307 : decode cL_call 307 = .ok (.ireturn, 1) := by decide +kernel
theorem dL_call_308 : decode cL_call 308 = .ok (.astore 5, 2) := by decide +kernel
theorem dL_call_310 : decode cL_call 310 = .ok (.sipush (-1003), 3) := by decide +kernel
theorem dL_call_313 : decode cL_call 313 = .ok (.ireturn, 1) := by decide +kernel
theorem dL_call_314 : decode cL_call 314 = .ok (.astore 5, 2) := by decide +kernel
theorem dL_call_316 : decode cL_call 316 = .ok (.sipush (-1004), 3) := by decide +kernel
theorem dL_call_319 : decode cL_call 319 = .ok (.ireturn, 1) := by decide +kernel
theorem dL_call_320 : decode cL_call 320 = .ok (.astore 5, 2) := by decide +kernel
theorem dL_call_322 : decode cL_call 322 = .ok (.sipush (-1005), 3) := by decide +kernel
theorem dL_call_325 : decode cL_call 325 = .ok (.ireturn, 1) := by decide +kernel
theorem dL_state_0 : decode cL_state 0 = .ok (.ldc2_w 108, 3) := by decide +kernel
theorem dL_state_3 : decode cL_state 3 = .ok (.lstore_n 3, 1) := by decide +kernel
theorem dL_state_4 : decode cL_state 4 = .ok (.iconst 0, 1) := by decide +kernel
theorem dL_state_5 : decode cL_state 5 = .ok (.istore 5, 2) := by decide +kernel
theorem dL_state_7 : decode cL_state 7 = .ok (.iload 5, 2) := by decide +kernel
theorem dL_state_9 : decode cL_state 9 = .ok (.iload_n 1, 1) := by decide +kernel
theorem dL_state_10 : decode cL_state 10 = .ok (.if_icmp .ge 62, 3) := by decide +kernel
theorem dL_state_13 : decode cL_state 13 = .ok (.iconst 0, 1) := by decide +kernel
theorem dL_state_14 : decode cL_state 14 = .ok (.istore 6, 2) := by decide +kernel
theorem dL_state_16 : decode cL_state 16 = .ok (.iload 6, 2) := by decide +kernel
theorem dL_state_18 : decode cL_state 18 = .ok (.aload_n 0, 1) := by decide +kernel
theorem dL_state_19 : decode cL_state 19 = .ok (.bipush 6, 2) := by decide +kernel
theorem dL_state_21 : decode cL_state 21 = .ok (.iload 5, 2) := by decide +kernel
theorem dL_state_23 : decode cL_state 23 = .ok (.iconst 0, 1) := by decide +kernel
theorem dL_state_24 : decode cL_state 24 = .ok (.iconst 0, 1) := by decide +kernel
theorem dL_state_25 : decode cL_state 25 = .ok (.invokestatic 110, 3) := by decide +kernel
theorem dL_state_28 : decode cL_state 28 = .ok (.if_icmp .ge 28, 3) := by decide +kernel
theorem dL_state_31 : decode cL_state 31 = .ok (.ldc2_w 116, 3) := by decide +kernel
theorem dL_state_34 : decode cL_state 34 = .ok (.lload_n 3, 1) := by decide +kernel
theorem dL_state_35 : decode cL_state 35 = .ok (.lmul, 1) := by decide +kernel
theorem dL_state_36 : decode cL_state 36 = .ok (.aload_n 0, 1) := by decide +kernel
theorem dL_state_37 : decode cL_state 37 = .ok (.bipush 7, 2) := by decide +kernel
theorem dL_state_39 : decode cL_state 39 = .ok (.iload 5, 2) := by decide +kernel
theorem dL_state_41 : decode cL_state 41 = .ok (.iload 6, 2) := by decide +kernel
theorem dL_state_43 : decode cL_state 43 = .ok (.iconst 0, 1) := by decide +kernel
theorem dL_state_44 : decode cL_state 44 = .ok (.invokestatic 110, 3) := by decide +kernel
theorem dL_state_47 : decode cL_state 47 = .ok (.i2l, 1) := by decide +kernel
theorem dL_state_48 : decode cL_state 48 = .ok (.ladd, 1) := by decide +kernel
theorem dL_state_49 : decode cL_state 49 = .ok (.lstore_n 3, 1) := by decide +kernel
theorem dL_state_50 : decode cL_state 50 = .ok (.iinc 6 1, 3) := by decide +kernel
theorem dL_state_53 : decode cL_state 53 = .ok (.goto (-37), 3) := by decide +kernel
theorem dL_state_56 : decode cL_state 56 = .ok (.ldc2_w 116, 3) := by decide +kernel
theorem dL_state_59 : decode cL_state 59 = .ok (.lload_n 3, 1) := by decide +kernel
theorem dL_state_60 : decode cL_state 60 = .ok (.lmul, 1) := by decide +kernel
theorem dL_state_61 : decode cL_state 61 = .ok (.ldc2_w 118, 3) := by decide +kernel
theorem dL_state_64 : decode cL_state 64 = .ok (.ladd, 1) := by decide +kernel
theorem dL_state_65 : decode cL_state 65 = .ok (.lstore_n 3, 1) := by decide +kernel
theorem dL_state_66 : decode cL_state 66 = .ok (.iinc 5 1, 3) := by decide +kernel
theorem dL_state_69 : decode cL_state 69 = .ok (.goto (-62), 3) := by decide +kernel
theorem dL_state_72 : decode cL_state 72 = .ok (.iconst 0, 1) := by decide +kernel
theorem dL_state_73 : decode cL_state 73 = .ok (.istore 5, 2) := by decide +kernel
theorem dL_state_75 : decode cL_state 75 = .ok (.iload 5, 2) := by decide +kernel
theorem dL_state_77 : decode cL_state 77 = .ok (.bipush 20, 2) := by decide +kernel
theorem dL_state_79 : decode cL_state 79 = .ok (.if_icmp .ge 59, 3) := by decide +kernel
theorem dL_state_82 : decode cL_state 82 = .ok (.ldc2_w 116, 3) := by decide +kernel
theorem dL_state_85 : decode cL_state 85 = .ok (.ldc2_w 116, 3) := by decide +kernel
theorem dL_state_88 : decode cL_state 88 = .ok (.ldc2_w 116, 3) := by decide +kernel
theorem dL_state_91 : decode cL_state 91 = .ok (.lload_n 3, 1) := by decide +kernel
theorem dL_state_92 : decode cL_state 92 = .ok (.lmul, 1) := by decide +kernel
theorem dL_state_93 : decode cL_state 93 = .ok (.aload_n 0, 1) := by decide +kernel
theorem dL_state_94 : decode cL_state 94 = .ok (.bipush 10, 2) := by decide +kernel
theorem dL_state_96 : decode cL_state 96 = .ok (.iload 5, 2) := by decide +kernel
theorem dL_state_98 : decode cL_state 98 = .ok (.iconst 0, 1) := by decide +kernel
theorem dL_state_99 : decode cL_state 99 = .ok (.iconst 0, 1) := by decide +kernel
theorem dL_state_100 : decode cL_state 100 = .ok (.invokestatic 110, 3) := by decide +kernel
theorem dL_state_103 : decode cL_state 103 = .ok (.i2l, 1) := by decide +kernel
theorem dL_state_104 : decode cL_state 104 = .ok (.ladd, 1) := by decide +kernel
theorem dL_state_105 : decode cL_state 105 = .ok (.lmul, 1) := by decide +kernel
theorem dL_state_106 : decode cL_state 106 = .ok (.aload_n 0, 1) := by decide +kernel
theorem dL_state_107 : decode cL_state 107 = .ok (.bipush 11, 2) := by decide +kernel
theorem dL_state_109 : decode cL_state 109 = .ok (.iload 5, 2) := by decide +kernel
theorem dL_state_111 : decode cL_state 111 = .ok (.iconst 0, 1) := by decide +kernel
theorem dL_state_112 : decode cL_state 112 = .ok (.iconst 0, 1) := by decide +kernel
theorem dL_state_113 : decode cL_state 113 = .ok (.invokestatic 110, 3) := by decide +kernel
theorem dL_state_116 : decode cL_state 116 = .ok (.i2l, 1) := by decide +kernel
theorem dL_state_117 : decode cL_state 117 = .ok (.ladd, 1) := by decide +kernel
theorem dL_state_118 : decode cL_state 118 = .ok (.lmul, 1) := by decide +kernel
theorem dL_state_119 : decode cL_state 119 = .ok (.aload_n 0, 1) := by decide +kernel
theorem dL_state_120 : decode cL_state 120 = .ok (.bipush 23, 2) := by decide +kernel
theorem dL_state_122 : decode cL_state 122 = .ok (.iload 5, 2) := by decide +kernel
theorem dL_state_124 : decode cL_state 124 = .ok (.iconst 0, 1) := by decide +kernel
theorem dL_state_125 : decode cL_state 125 = .ok (.iconst 0, 1) := by decide +kernel
theorem dL_state_126 : decode cL_state 126 = .ok (.invokestatic 110, 3) := by decide +kernel
theorem dL_state_129 : decode cL_state 129 = .ok (.i2l, 1) := by decide +kernel
theorem dL_state_130 : decode cL_state 130 = .ok (.ladd, 1) := by decide +kernel
theorem dL_state_131 : decode cL_state 131 = .ok (.lstore_n 3, 1) := by decide +kernel
theorem dL_state_132 : decode cL_state 132 = .ok (.iinc 5 1, 3) := by decide +kernel
theorem dL_state_135 : decode cL_state 135 = .ok (.goto (-60), 3) := by decide +kernel
theorem dL_state_138 : decode cL_state 138 = .ok (.iconst 0, 1) := by decide +kernel
theorem dL_state_139 : decode cL_state 139 = .ok (.istore 5, 2) := by decide +kernel
theorem dL_state_141 : decode cL_state 141 = .ok (.iload 5, 2) := by decide +kernel
theorem dL_state_143 : decode cL_state 143 = .ok (.iload_n 2, 1) := by decide +kernel
theorem dL_state_144 : decode cL_state 144 = .ok (.if_icmp .ge 27, 3) := by decide +kernel
theorem dL_state_147 : decode cL_state 147 = .ok (.ldc2_w 116, 3) := by decide +kernel
theorem dL_state_150 : decode cL_state 150 = .ok (.lload_n 3, 1) := by decide +kernel
theorem dL_state_151 : decode cL_state 151 = .ok (.lmul, 1) := by decide +kernel
theorem dL_state_152 : decode cL_state 152 = .ok (.aload_n 0, 1) := by decide +kernel
theorem dL_state_153 : decode cL_state 153 = .ok (.bipush 22, 2) := by decide +kernel
theorem dL_state_155 : decode cL_state 155 = .ok (.iload 5, 2) := by decide +kernel
theorem dL_state_157 : decode cL_state 157 = .ok (.iconst 0, 1) := by decide +kernel
theorem dL_state_158 : decode cL_state 158 = .ok (.iconst 0, 1) := by decide +kernel
theorem dL_state_159 : decode cL_state 159 = .ok (.invokestatic 110, 3) := by decide +kernel
theorem dL_state_162 : decode cL_state 162 = .ok (.i2l, 1) := by decide +kernel
theorem dL_state_163 : decode cL_state 163 = .ok (.ladd, 1) := by decide +kernel
theorem dL_state_164 : decode cL_state 164 = .ok (.lstore_n 3, 1) := by decide +kernel
theorem dL_state_165 : decode cL_state 165 = .ok (.iinc 5 1, 3) := by decide +kernel
theorem dL_state_168 : decode cL_state 168 = .ok (.goto (-27), 3) := by decide +kernel
theorem dL_state_171 : decode cL_state 171 = .ok (.ldc2_w 116, 3) := by decide +kernel
theorem dL_state_174 : decode cL_state 174 = .ok (.ldc2_w 116, 3) := by decide +kernel
theorem dL_state_177 : decode cL_state 177 = .ok (.ldc2_w 116, 3) := by decide +kernel
theorem dL_state_180 : decode cL_state 180 = .ok (.lload_n 3, 1) := by decide +kernel
theorem dL_state_181 : decode cL_state 181 = .ok (.lmul, 1) := by decide +kernel
theorem dL_state_182 : decode cL_state 182 = .ok (.aload_n 0, 1) := by decide +kernel
theorem dL_state_183 : decode cL_state 183 = .ok (.invokevirtual 120, 3) := by decide +kernel
theorem dL_state_186 : decode cL_state 186 = .ok (.i2l, 1) := by decide +kernel
theorem dL_state_187 : decode cL_state 187 = .ok (.ladd, 1) := by decide +kernel
theorem dL_state_188 : decode cL_state 188 = .ok (.lmul, 1) := by decide +kernel
theorem dL_state_189 : decode cL_state 189 = .ok (.aload_n 0, 1) := by decide +kernel
theorem dL_state_190 : decode cL_state 190 = .ok (.invokevirtual 124, 3) := by decide +kernel
theorem dL_state_193 : decode cL_state 193 = .ok (.i2l, 1) := by decide +kernel
theorem dL_state_194 : decode cL_state 194 = .ok (.ladd, 1) := by decide +kernel
theorem dL_state_195 : decode cL_state 195 = .ok (.lmul, 1) := by decide +kernel
theorem dL_state_196 : decode cL_state 196 = .ok (.aload_n 0, 1) := by decide +kernel
theorem dL_state_197 : decode cL_state 197 = .ok (.invokevirtual 127, 3) := by decide +kernel
theorem dL_state_200 : decode cL_state 200 = .ok (.ladd, 1) := by decide +kernel
theorem dL_state_201 : decode cL_state 201 = .ok (.lreturn, 1) := by decide +kernel
theorem dL_sound_0 : decode cL_sound 0 = .ok (.iconst 0, 1) := by decide +kernel
theorem dL_sound_1 : decode cL_sound 1 = .ok (.istore_n 3, 1) := by decide +kernel
theorem dL_sound_2 : decode cL_sound 2 = .ok (.iconst 0, 1) := by decide +kernel
theorem dL_sound_3 : decode cL_sound 3 = .ok (.istore 4, 2) := by decide +kernel
theorem dL_sound_5 : decode cL_sound 5 = .ok (.iload 4, 2) := by decide +kernel
theorem dL_sound_7 : decode cL_sound 7 = .ok (.iload_n 1, 1) := by decide +kernel
theorem dL_sound_8 : decode cL_sound 8 = .ok (.if_icmp .ge 242, 3) := by decide +kernel
theorem dL_sound_11 : decode cL_sound 11 = .ok (.aload_n 0, 1) := by decide +kernel
theorem dL_sound_12 : decode cL_sound 12 = .ok (.bipush 6, 2) := by decide +kernel
theorem dL_sound_14 : decode cL_sound 14 = .ok (.iload 4, 2) := by decide +kernel
theorem dL_sound_16 : decode cL_sound 16 = .ok (.iconst 0, 1) := by decide +kernel
theorem dL_sound_17 : decode cL_sound 17 = .ok (.iconst 0, 1) := by decide +kernel
theorem dL_sound_18 : decode cL_sound 18 = .ok (.invokestatic 110, 3) := by decide +kernel
theorem dL_sound_21 : decode cL_sound 21 = .ok (.istore 5, 2) := by decide +kernel
theorem dL_sound_23 : decode cL_sound 23 = .ok (.iload 5, 2) := by decide +kernel
theorem dL_sound_25 : decode cL_sound 25 = .ok (.aload_n 2, 1) := by decide +kernel
theorem dL_sound_26 : decode cL_sound 26 = .ok (.iload 4, 2) := by decide +kernel
theorem dL_sound_28 : decode cL_sound 28 = .ok (.iaload, 1) := by decide +kernel
theorem dL_sound_29 : decode cL_sound 29 = .ok (.if_icmp .le 5, 3) := by decide +kernel
theorem dL_sound_32 : decode cL_sound 32 = .ok (.iconst 0, 1) := by decide +kernel
theorem dL_sound_33 : decode cL_sound 33 = .ok (.ireturn, 1) := by decide +kernel
theorem dL_sound_34 : decode cL_sound 34 = .ok (.iconst 0, 1) := by decide +kernel
theorem dL_sound_35 : decode cL_sound 35 = .ok (.istore 6, 2) := by decide +kernel
theorem dL_sound_37 : decode cL_sound 37 = .ok (.iload 6, 2) := by decide +kernel
theorem dL_sound_39 : decode cL_sound 39 = .ok (.iload 5, 2) := by decide +kernel
theorem dL_sound_41 : decode cL_sound 41 = .ok (.if_icmp .ge 203, 3) := by decide +kernel
theorem dL_sound_44 : decode cL_sound 44 = .ok (.aload_n 0, 1) := by decide +kernel
theorem dL_sound_45 : decode cL_sound 45 = .ok (.bipush 7, 2) := by decide +kernel
theorem dL_sound_47 : decode cL_sound 47 = .ok (.iload 4, 2) := by decide +kernel
theorem dL_sound_49 : decode cL_sound 49 = .ok (.iload 6, 2) := by decide +kernel
theorem dL_sound_51 : decode cL_sound 51 = .ok (.iconst 0, 1) := by decide +kernel
theorem dL_sound_52 : decode cL_sound 52 = .ok (.invokestatic 110, 3) := by decide +kernel
theorem dL_sound_55 : decode cL_sound 55 = .ok (.istore 7, 2) := by decide +kernel
theorem dL_sound_57 : decode cL_sound 57 = .ok (.aload_n 0, 1) := by decide +kernel
theorem dL_sound_58 : decode cL_sound 58 = .ok (.bipush 15, 2) := by decide +kernel
theorem dL_sound_60 : decode cL_sound 60 = .ok (.iload 7, 2) := by decide +kernel
theorem dL_sound_62 : decode cL_sound 62 = .ok (.iconst 0, 1) := by decide +kernel
theorem dL_sound_63 : decode cL_sound 63 = .ok (.iconst 0, 1) := by decide +kernel
theorem dL_sound_64 : decode cL_sound 64 = .ok (.invokestatic 110, 3) := by decide +kernel
theorem dL_sound_67 : decode cL_sound 67 = .ok (.istore 8, 2) := by decide +kernel
theorem dL_sound_69 : decode cL_sound 69 = .ok (.iinc 3 1, 3) := by decide +kernel
theorem dL_sound_72 : decode cL_sound 72 = .ok (.aload_n 0, 1) := by decide +kernel
theorem dL_sound_73 : decode cL_sound 73 = .ok (.iconst 3, 1) := by decide +kernel
theorem dL_sound_74 : decode cL_sound 74 = .ok (.iload 7, 2) := by decide +kernel
theorem dL_sound_76 : decode cL_sound 76 = .ok (.iconst 0, 1) := by decide +kernel
theorem dL_sound_77 : decode cL_sound 77 = .ok (.iconst 0, 1) := by decide +kernel
theorem dL_sound_78 : decode cL_sound 78 = .ok (.invokestatic 110, 3) := by decide +kernel
theorem dL_sound_81 : decode cL_sound 81 = .ok (.iload 4, 2) := by decide +kernel
theorem dL_sound_83 : decode cL_sound 83 = .ok (.if_icmp .ne 153, 3) := by decide +kernel
theorem dL_sound_86 : decode cL_sound 86 = .ok (.aload_n 0, 1) := by decide +kernel
theorem dL_sound_87 : decode cL_sound 87 = .ok (.iconst 4, 1) := by decide +kernel
theorem dL_sound_88 : decode cL_sound 88 = .ok (.iload 7, 2) := by decide +kernel
theorem dL_sound_90 : decode cL_sound 90 = .ok (.iconst 0, 1) := by decide +kernel
theorem dL_sound_91 : decode cL_sound 91 = .ok (.iconst 0, 1) := by decide +kernel
theorem dL_sound_92 : decode cL_sound 92 = .ok (.invokestatic 110, 3) := by decide +kernel
theorem dL_sound_95 : decode cL_sound 95 = .ok (.iload 6, 2) := by decide +kernel
theorem dL_sound_97 : decode cL_sound 97 = .ok (.if_icmp .ne 139, 3) := by decide +kernel
theorem dL_sound_100 : decode cL_sound 100 = .ok (.aload_n 0, 1) := by decide +kernel
theorem dL_sound_101 : decode cL_sound 101 = .ok (.iconst 5, 1) := by decide +kernel
theorem dL_sound_102 : decode cL_sound 102 = .ok (.iload 7, 2) := by decide +kernel
theorem dL_sound_104 : decode cL_sound 104 = .ok (.iconst 0, 1) := by decide +kernel
theorem dL_sound_105 : decode cL_sound 105 = .ok (.iconst 0, 1) := by decide +kernel
theorem dL_sound_106 : decode cL_sound 106 = .ok (.invokestatic 110, 3) := by decide +kernel
theorem dL_sound_109 : decode cL_sound 109 = .ok (.iload 5, 2) := by decide +kernel
theorem dL_sound_111 : decode cL_sound 111 = .ok (.iconst 1, 1) := by decide +kernel
theorem dL_sound_112 : decode cL_sound 112 = .ok (.isub, 1) := by decide +kernel
theorem dL_sound_113 : decode cL_sound 113 = .ok (.iload 6, 2) := by decide +kernel
theorem dL_sound_115 : decode cL_sound 115 = .ok (.isub, 1) := by decide +kernel
theorem dL_sound_116 : decode cL_sound 116 = .ok (.if_icmp .ne 120, 3) := by decide +kernel
theorem dL_sound_119 : decode cL_sound 119 = .ok (.iload 6, 2) := by decide +kernel
theorem dL_sound_121 : decode cL_sound 121 = .ok (.ifCond .le 35, 3) := by decide +kernel
theorem dL_sound_124 : decode cL_sound 124 = .ok (.aload_n 0, 1) := by decide +kernel
theorem dL_sound_125 : decode cL_sound 125 = .ok (.iconst 2, 1) := by decide +kernel
theorem dL_sound_126 : decode cL_sound 126 = .ok (.iload 7, 2) := by decide +kernel
theorem dL_sound_128 : decode cL_sound 128 = .ok (.iconst 0, 1) := by decide +kernel
theorem dL_sound_129 : decode cL_sound 129 = .ok (.iconst 0, 1) := by decide +kernel
theorem dL_sound_130 : decode cL_sound 130 = .ok (.invokestatic 110, 3) := by decide +kernel
theorem dL_sound_133 : decode cL_sound 133 = .ok (.aload_n 0, 1) := by decide +kernel
theorem dL_sound_134 : decode cL_sound 134 = .ok (.iconst 2, 1) := by decide +kernel
theorem dL_sound_135 : decode cL_sound 135 = .ok (.aload_n 0, 1) := by decide +kernel
theorem dL_sound_136 : decode cL_sound 136 = .ok (.bipush 7, 2) := by decide +kernel
theorem dL_sound_138 : decode cL_sound 138 = .ok (.iload 4, 2) := by decide +kernel
theorem dL_sound_140 : decode cL_sound 140 = .ok (.iload 6, 2) := by decide +kernel
theorem dL_sound_142 : decode cL_sound 142 = .ok (.iconst 1, 1) := by decide +kernel
theorem dL_sound_143 : decode cL_sound 143 = .ok (.isub, 1) := by decide +kernel
theorem dL_sound_144 : decode cL_sound 144 = .ok (.iconst 0, 1) := by decide +kernel
theorem dL_sound_145 : decode cL_sound 145 = .ok (.invokestatic 110, 3) := by decide +kernel
theorem dL_sound_148 : decode cL_sound 148 = .ok (.iconst 0, 1) := by decide +kernel
theorem dL_sound_149 : decode cL_sound 149 = .ok (.iconst 0, 1) := by decide +kernel
theorem dL_sound_150 : decode cL_sound 150 = .ok (.invokestatic 110, 3) := by decide +kernel
theorem dL_sound_153 : decode cL_sound 153 = .ok (.if_icmp .gt 83, 3) := by decide +kernel
theorem dL_sound_156 : decode cL_sound 156 = .ok (.iload 8, 2) := by decide +kernel
theorem dL_sound_158 : decode cL_sound 158 = .ok (.aload_n 0, 1) := by decide +kernel
theorem dL_sound_159 : decode cL_sound 159 = .ok (.bipush 16, 2) := by decide +kernel
theorem dL_sound_161 : decode cL_sound 161 = .ok (.iload 7, 2) := by decide +kernel
theorem dL_sound_163 : decode cL_sound 163 = .ok (.iconst 0, 1) := by decide +kernel
theorem dL_sound_164 : decode cL_sound 164 = .ok (.iconst 0, 1) := by decide +kernel
theorem dL_sound_165 : decode cL_sound 165 = .ok (.invokestatic 110, 3) := by decide +kernel
theorem dL_sound_168 : decode cL_sound 168 = .ok (.if_icmp .ne 68, 3) := by decide +kernel
theorem dL_sound_171 : decode cL_sound 171 = .ok (.iload 8, 2) := by decide +kernel
theorem dL_sound_173 : decode cL_sound 173 = .ok (.sipush (-1005), 3) := by decide +kernel
theorem dL_sound_176 : decode cL_sound 176 = .ok (.if_icmp .eq 25, 3) := by decide +kernel
theorem dL_sound_179 : decode cL_sound 179 = .ok (.iload 8, 2) := by decide +kernel
theorem dL_sound_181 : decode cL_sound 181 = .ok (.iload 5, 2) := by decide +kernel
theorem dL_sound_183 : decode cL_sound 183 = .ok (.iconst 1, 1) := by decide +kernel
theorem dL_sound_184 : decode cL_sound 184 = .ok (.isub, 1) := by decide +kernel
theorem dL_sound_185 : decode cL_sound 185 = .ok (.iload 6, 2) := by decide +kernel
theorem dL_sound_187 : decode cL_sound 187 = .ok (.isub, 1) := by decide +kernel
theorem dL_sound_188 : decode cL_sound 188 = .ok (.if_icmp .lt 48, 3) := by decide +kernel
theorem dL_sound_191 : decode cL_sound 191 = .ok (.iload 8, 2) := by decide +kernel
theorem dL_sound_193 : decode cL_sound 193 = .ok (.iload 5, 2) := by decide +kernel
theorem dL_sound_195 : decode cL_sound 195 = .ok (.iload 6, 2) := by decide +kernel
theorem dL_sound_197 : decode cL_sound 197 = .ok (.isub, 1) := by decide +kernel
theorem dL_sound_198 : decode cL_sound 198 = .ok (.if_icmp .gt 38, 3) := by decide +kernel
theorem dL_sound_201 : decode cL_sound 201 = .ok (.aload_n 0, 1) := by decide +kernel
theorem dL_sound_202 : decode cL_sound 202 = .ok (.bipush 12, 2) := by decide +kernel
theorem dL_sound_204 : decode cL_sound 204 = .ok (.iload 7, 2) := by decide +kernel
theorem dL_sound_206 : decode cL_sound 206 = .ok (.iconst 0, 1) := by decide +kernel
theorem dL_sound_207 : decode cL_sound 207 = .ok (.iconst 0, 1) := by decide +kernel
theorem dL_sound_208 : decode cL_sound 208 = .ok (.invokestatic 110, 3) := by decide +kernel
theorem dL_sound_211 : decode cL_sound 211 = .ok (.ifCond .le 11, 3) := by decide +kernel
theorem dL_sound_214 : decode cL_sound 214 = .ok (.iload 8, 2) := by decide +kernel
theorem dL_sound_216 : decode cL_sound 216 = .ok (.sipush (-1005), 3) := by decide +kernel
theorem dL_sound_219 : decode cL_sound 219 = .ok (.if_icmp .ne 17, 3) := by decide +kernel
theorem dL_sound_222 : decode cL_sound 222 = .ok (.iload 6, 2) := by decide +kernel
theorem dL_sound_224 : decode cL_sound 224 = .ok (.iload 5, 2) := by decide +kernel
theorem dL_sound_226 : decode cL_sound 226 = .ok (.iconst 1, 1) := by decide +kernel
theorem dL_sound_227 : decode cL_sound 227 = .ok (.isub, 1) := by decide +kernel
theorem dL_sound_228 : decode cL_sound 228 = .ok (.if_icmp .ne 10, 3) := by decide +kernel
theorem dL_sound_231 : decode cL_sound 231 = .ok (.iload 8, 2) := by decide +kernel
theorem dL_sound_233 : decode cL_sound 233 = .ok (.ifCond .eq 5, 3) := by decide +kernel
theorem dL_sound_236 : decode cL_sound 236 = .ok (.iconst 0, 1) := by decide +kernel
theorem dL_sound_237 : decode cL_sound 237 = .ok (.ireturn, 1) := by decide +kernel
theorem dL_sound_238 : decode cL_sound 238 = .ok (.iinc 6 1, 3) := by decide +kernel
theorem dL_sound_241 : decode cL_sound 241 = .ok (.goto (-204), 3) := by decide +kernel
theorem dL_sound_244 : decode cL_sound 244 = .ok (.iinc 4 1, 3) := by decide +kernel
theorem dL_sound_247 : decode cL_sound 247 = .ok (.goto (-242), 3) := by decide +kernel
theorem dL_sound_250 : decode cL_sound 250 = .ok (.aload_n 0, 1) := by decide +kernel
theorem dL_sound_251 : decode cL_sound 251 = .ok (.invokevirtual 131, 3) := by decide +kernel
theorem dL_sound_254 : decode cL_sound 254 = .ok (.iload_n 3, 1) := by decide +kernel
theorem dL_sound_255 : decode cL_sound 255 = .ok (.if_icmp .ne 13, 3) := by decide +kernel
theorem dL_sound_258 : decode cL_sound 258 = .ok (.iload_n 3, 1) := by decide +kernel
theorem dL_sound_259 : decode cL_sound 259 = .ok (.bipush 9, 2) := by decide +kernel
theorem dL_sound_261 : decode cL_sound 261 = .ok (.if_icmp .ge 7, 3) := by decide +kernel
theorem dL_sound_264 : decode cL_sound 264 = .ok (.iconst 1, 1) := by decide +kernel
theorem dL_sound_265 : decode cL_sound 265 = .ok (.goto 4, 3) := by decide +kernel
theorem dL_sound_268 : decode cL_sound 268 = .ok (.iconst 0, 1) := by decide +kernel
theorem dL_sound_269 : decode cL_sound 269 = .ok (.ireturn, 1) := by decide +kernel
theorem dL_law_0 : decode cL_law 0 = .ok (.new 10, 3) := by decide +kernel
theorem dL_law_3 : decode cL_law 3 = .ok (.dup, 1) := by decide +kernel
theorem dL_law_4 : decode cL_law 4 = .ok (.invokespecial 134, 3) := by decide +kernel
theorem dL_law_7 : decode cL_law 7 = .ok (.astore_n 1, 1) := by decide +kernel
theorem dL_law_8 : decode cL_law 8 = .ok (.iconst 2, 1) := by decide +kernel
theorem dL_law_9 : decode cL_law 9 = .ok (.aload_n 0, 1) := by decide +kernel
theorem dL_law_10 : decode cL_law 10 = .ok (.iconst 0, 1) := by decide +kernel
theorem dL_law_11 : decode cL_law 11 = .ok (.invokestatic 135, 3) := by decide +kernel
theorem dL_law_14 : decode cL_law 14 = .ok (.iconst 3, 1) := by decide +kernel
theorem dL_law_15 : decode cL_law 15 = .ok (.invokestatic 139, 3) := by decide +kernel
theorem dL_law_18 : decode cL_law 18 = .ok (.iadd, 1) := by decide +kernel
theorem dL_law_19 : decode cL_law 19 = .ok (.istore_n 2, 1) := by decide +kernel
theorem dL_law_20 : decode cL_law 20 = .ok (.iconst 4, 1) := by decide +kernel
theorem dL_law_21 : decode cL_law 21 = .ok (.newarray .int, 2) := by decide +kernel
theorem dL_law_23 : decode cL_law 23 = .ok (.astore_n 3, 1) := by decide +kernel
theorem dL_law_24 : decode cL_law 24 = .ok (.iconst 0, 1) := by decide +kernel
theorem dL_law_25 : decode cL_law 25 = .ok (.istore 4, 2) := by decide +kernel
theorem dL_law_27 : decode cL_law 27 = .ok (.iconst 0, 1) := by decide +kernel
theorem dL_law_28 : decode cL_law 28 = .ok (.istore 5, 2) := by decide +kernel
theorem dL_law_30 : decode cL_law 30 = .ok (.iconst 0, 1) := by decide +kernel
theorem dL_law_31 : decode cL_law 31 = .ok (.istore 6, 2) := by decide +kernel
theorem dL_law_33 : decode cL_law 33 = .ok (.iload 6, 2) := by decide +kernel
theorem dL_law_35 : decode cL_law 35 = .ok (.iload_n 2, 1) := by decide +kernel
theorem dL_law_36 : decode cL_law 36 = .ok (.if_icmp .ge 45, 3) := by decide +kernel
theorem dL_law_39 : decode cL_law 39 = .ok (.aload_n 3, 1) := by decide +kernel
theorem dL_law_40 : decode cL_law 40 = .ok (.iload 6, 2) := by decide +kernel
theorem dL_law_42 : decode cL_law 42 = .ok (.iconst 1, 1) := by decide +kernel
theorem dL_law_43 : decode cL_law 43 = .ok (.aload_n 0, 1) := by decide +kernel
theorem dL_law_44 : decode cL_law 44 = .ok (.iconst 1, 1) := by decide +kernel
theorem dL_law_45 : decode cL_law 45 = .ok (.iload 6, 2) := by decide +kernel
theorem dL_law_47 : decode cL_law 47 = .ok (.iadd, 1) := by decide +kernel
theorem dL_law_48 : decode cL_law 48 = .ok (.invokestatic 135, 3) := by decide +kernel
theorem dL_law_51 : decode cL_law 51 = .ok (.iconst 4, 1) := by decide +kernel
theorem dL_law_52 : decode cL_law 52 = .ok (.invokestatic 139, 3) := by decide +kernel
theorem dL_law_55 : decode cL_law 55 = .ok (.iadd, 1) := by decide +kernel
theorem dL_law_56 : decode cL_law 56 = .ok (.iastore, 1) := by decide +kernel
theorem dL_law_57 : decode cL_law 57 = .ok (.aload_n 1, 1) := by decide +kernel
theorem dL_law_58 : decode cL_law 58 = .ok (.iconst 0, 1) := by decide +kernel
theorem dL_law_59 : decode cL_law 59 = .ok (.aload_n 3, 1) := by decide +kernel
theorem dL_law_60 : decode cL_law 60 = .ok (.iload 6, 2) := by decide +kernel
theorem dL_law_62 : decode cL_law 62 = .ok (.iaload, 1) := by decide +kernel
theorem dL_law_63 : decode cL_law 63 = .ok (.iconst 0, 1) := by decide +kernel
theorem dL_law_64 : decode cL_law 64 = .ok (.iconst 0, 1) := by decide +kernel
theorem dL_law_65 : decode cL_law 65 = .ok (.invokestatic 110, 3) := by decide +kernel
theorem dL_law_68 : decode cL_law 68 = .ok (.iload 6, 2) := by decide +kernel
theorem dL_law_70 : decode cL_law 70 = .ok (.if_icmp .eq 5, 3) := by decide +kernel
theorem dL_law_73 : decode cL_law 73 = .ok (.iconst 0, 1) := by decide +kernel
theorem dL_law_74 : decode cL_law 74 = .ok (.ireturn, 1) := by decide +kernel
theorem dL_law_75 : decode cL_law 75 = .ok (.iinc 6 1, 3) := by decide +kernel
theorem dL_law_78 : decode cL_law 78 = .ok (.goto (-45), 3) := by decide +kernel
theorem dL_law_81 : decode cL_law 81 = .ok (.iconst 0, 1) := by decide +kernel
theorem dL_law_82 : decode cL_law 82 = .ok (.istore 6, 2) := by decide +kernel
theorem dL_law_84 : decode cL_law 84 = .ok (.iload 6, 2) := by decide +kernel
theorem dL_law_86 : decode cL_law 86 = .ok (.bipush 40, 2) := by decide +kernel
theorem dL_law_88 : decode cL_law 88 = .ok (.if_icmp .ge 988, 3) := by decide +kernel
theorem dL_law_91 : decode cL_law 91 = .ok (.aload_n 0, 1) := by decide +kernel
theorem dL_law_92 : decode cL_law 92 = .ok (.iconst 5, 1) := by decide +kernel
theorem dL_law_93 : decode cL_law 93 = .ok (.iload 6, 2) := by decide +kernel
theorem dL_law_95 : decode cL_law 95 = .ok (.iadd, 1) := by decide +kernel
theorem dL_law_96 : decode cL_law 96 = .ok (.invokestatic 135, 3) := by decide +kernel
theorem dL_law_99 : decode cL_law 99 = .ok (.istore 7, 2) := by decide +kernel
theorem dL_law_101 : decode cL_law 101 = .ok (.iload 7, 2) := by decide +kernel
theorem dL_law_103 : decode cL_law 103 = .ok (.iconst 5, 1) := by decide +kernel
theorem dL_law_104 : decode cL_law 104 = .ok (.ishr, 1) := by decide +kernel
theorem dL_law_105 : decode cL_law 105 = .ok (.iload 4, 2) := by decide +kernel
theorem dL_law_107 : decode cL_law 107 = .ok (.iconst 1, 1) := by decide +kernel
theorem dL_law_108 : decode cL_law 108 = .ok (.iadd, 1) := by decide +kernel
theorem dL_law_109 : decode cL_law 109 = .ok (.invokestatic 139, 3) := by decide +kernel
theorem dL_law_112 : decode cL_law 112 = .ok (.istore 8, 2) := by decide +kernel
theorem dL_law_114 : decode cL_law 114 = .ok (.iload 7, 2) := by decide +kernel
theorem dL_law_116 : decode cL_law 116 = .ok (.bipush 10, 2) := by decide +kernel
theorem dL_law_118 : decode cL_law 118 = .ok (.ishr, 1) := by decide +kernel
theorem dL_law_119 : decode cL_law 119 = .ok (.iload_n 2, 1) := by decide +kernel
theorem dL_law_120 : decode cL_law 120 = .ok (.invokestatic 139, 3) := by decide +kernel
theorem dL_law_123 : decode cL_law 123 = .ok (.istore 9, 2) := by decide +kernel
theorem dL_law_125 : decode cL_law 125 = .ok (.iload 6, 2) := by decide +kernel
theorem dL_law_127 : decode cL_law 127 = .ok (.iconst 3, 1) := by decide +kernel
theorem dL_law_128 : decode cL_law 128 = .ok (.if_icmp .ge 7, 3) := by decide +kernel
theorem dL_law_131 : decode cL_law 131 = .ok (.iconst 0, 1) := by decide +kernel
theorem dL_law_132 : decode cL_law 132 = .ok (.goto 8, 3) := by decide +kernel
theorem dL_law_135 : decode cL_law 135 = .ok (.iload 7, 2) := by decide +kernel
theorem dL_law_137 : decode cL_law 137 = .ok (.bipush 31, 2) := by decide +kernel
theorem dL_law_139 : decode cL_law 139 = .ok (.iand, 1) := by decide +kernel
theorem dL_law_140 : decode cL_law 140 = .ok (.istore 10, 2) := by decide +kernel
theorem dL_law_142 : decode cL_law 142 = .ok (.aload_n 1, 1) := by decide +kernel
theorem dL_law_143 : decode cL_law 143 = .ok (.iload_n 2, 1) := by decide +kernel
theorem dL_law_144 : decode cL_law 144 = .ok (.iload 5, 2) := by decide +kernel
theorem dL_law_146 : decode cL_law 146 = .ok (.invokestatic 142, 3) := by decide +kernel
theorem dL_law_149 : decode cL_law 149 = .ok (.lstore 11, 2) := by decide +kernel
theorem dL_law_151 : decode cL_law 151 = .ok (.iconst 0, 1) := by decide +kernel
theorem dL_law_152 : decode cL_law 152 = .ok (.istore 13, 2) := by decide +kernel
theorem dL_law_154 : decode cL_law 154 = .ok (.iload 10, 2) := by decide +kernel
theorem dL_law_156 : decode cL_law 156 = .ok (.bipush 8, 2) := by decide +kernel
theorem dL_law_158 : decode cL_law 158 = .ok (.if_icmp .ge 99, 3) := by decide +kernel
theorem dL_law_161 : decode cL_law 161 = .ok (.aload_n 1, 1) := by decide +kernel
theorem dL_law_162 : decode cL_law 162 = .ok (.iconst 1, 1) := by decide +kernel
theorem dL_law_163 : decode cL_law 163 = .ok (.iconst 1, 1) := by decide +kernel
theorem dL_law_164 : decode cL_law 164 = .ok (.iload 7, 2) := by decide +kernel
theorem dL_law_166 : decode cL_law 166 = .ok (.bipush 13, 2) := by decide +kernel
theorem dL_law_168 : decode cL_law 168 = .ok (.ishr, 1) := by decide +kernel
theorem dL_law_169 : decode cL_law 169 = .ok (.iload 7, 2) := by decide +kernel
theorem dL_law_171 : decode cL_law 171 = .ok (.sipush 4096, 3) := by decide +kernel
theorem dL_law_174 : decode cL_law 174 = .ok (.iand, 1) := by decide +kernel
theorem dL_law_175 : decode cL_law 175 = .ok (.ifCond .ne 7, 3) := by decide +kernel
theorem dL_law_178 : decode cL_law 178 = .ok (.iconst 3, 1) := by decide +kernel
theorem dL_law_179 : decode cL_law 179 = .ok (.goto 5, 3) := by decide +kernel
theorem dL_law_182 : decode cL_law 182 = .ok (.bipush 31, 2) := by decide +kernel
theorem dL_law_184 : decode cL_law 184 = .ok (.invokestatic 139, 3) := by decide +kernel
theorem dL_law_187 : decode cL_law 187 = .ok (.iadd, 1) := by decide +kernel
theorem dL_law_188 : decode cL_law 188 = .ok (.iload 9, 2) := by decide +kernel
theorem dL_law_190 : decode cL_law 190 = .ok (.iconst 0, 1) := by decide +kernel
theorem dL_law_191 : decode cL_law 191 = .ok (.invokestatic 110, 3) := by decide +kernel
theorem dL_law_194 : decode cL_law 194 = .ok (.istore 13, 2) := by decide +kernel
theorem dL_law_196 : decode cL_law 196 = .ok (.iload 13, 2) := by decide +kernel
theorem dL_law_198 : decode cL_law 198 = .ok (.ifCond .lt 733, 3) := by decide +kernel
theorem dL_law_201 : decode cL_law 201 = .ok (.iload 13, 2) := by decide +kernel
theorem dL_law_203 : decode cL_law 203 = .ok (.iload 4, 2) := by decide +kernel
theorem dL_law_205 : decode cL_law 205 = .ok (.if_icmp .ne 44, 3) := by decide +kernel
theorem dL_law_208 : decode cL_law 208 = .ok (.aload_n 1, 1) := by decide +kernel
theorem dL_law_209 : decode cL_law 209 = .ok (.iconst 3, 1) := by decide +kernel
theorem dL_law_210 : decode cL_law 210 = .ok (.iload 13, 2) := by decide +kernel
theorem dL_law_212 : decode cL_law 212 = .ok (.iconst 0, 1) := by decide +kernel
theorem dL_law_213 : decode cL_law 213 = .ok (.iconst 0, 1) := by decide +kernel
theorem dL_law_214 : decode cL_law 214 = .ok (.invokestatic 110, 3) := by decide +kernel
theorem dL_law_217 : decode cL_law 217 = .ok (.iload 9, 2) := by decide +kernel
theorem dL_law_219 : decode cL_law 219 = .ok (.if_icmp .ne 30, 3) := by decide +kernel
theorem dL_law_222 : decode cL_law 222 = .ok (.aload_n 1, 1) := by decide +kernel
theorem dL_law_223 : decode cL_law 223 = .ok (.iconst 5, 1) := by decide +kernel
theorem dL_law_224 : decode cL_law 224 = .ok (.iload 13, 2) := by decide +kernel
theorem dL_law_226 : decode cL_law 226 = .ok (.iconst 0, 1) := by decide +kernel
theorem dL_law_227 : decode cL_law 227 = .ok (.iconst 0, 1) := by decide +kernel
theorem dL_law_228 : decode cL_law 228 = .ok (.invokestatic 110, 3) := by decide +kernel
theorem dL_law_231 : decode cL_law 231 = .ok (.ifCond .ne 18, 3) := by decide +kernel
theorem dL_law_234 : decode cL_law 234 = .ok (.aload_n 1, 1) := by decide +kernel
theorem dL_law_235 : decode cL_law 235 = .ok (.bipush 10, 2) := by decide +kernel
theorem dL_law_237 : decode cL_law 237 = .ok (.iload 13, 2) := by decide +kernel
theorem dL_law_239 : decode cL_law 239 = .ok (.iconst 0, 1) := by decide +kernel
theorem dL_law_240 : decode cL_law 240 = .ok (.iconst 0, 1) := by decide +kernel
theorem dL_law_241 : decode cL_law 241 = .ok (.invokestatic 110, 3) := by decide +kernel
theorem dL_law_244 : decode cL_law 244 = .ok (.bipush 45, 2) := by decide +kernel
theorem dL_law_246 : decode cL_law 246 = .ok (.if_icmp .eq 5, 3) := by decide +kernel
theorem dL_law_249 : decode cL_law 249 = .ok (.iconst 0, 1) := by decide +kernel
theorem dL_law_250 : decode cL_law 250 = .ok (.ireturn, 1) := by decide +kernel
theorem dL_law_251 : decode cL_law 251 = .ok (.iinc 4 1, 3) := by decide +kernel
theorem dL_law_254 : decode cL_law 254 = .ok (.goto 677, 3) := by decide +kernel
theorem dL_law_257 : decode cL_law 257 = .ok (.iload 10, 2) := by decide +kernel
theorem dL_law_259 : decode cL_law 259 = .ok (.bipush 11, 2) := by decide +kernel
theorem dL_law_261 : decode cL_law 261 = .ok (.if_icmp .ge 109, 3) := by decide +kernel
theorem dL_law_264 : decode cL_law 264 = .ok (.aload_n 1, 1) := by decide +kernel
theorem dL_law_265 : decode cL_law 265 = .ok (.bipush 23, 2) := by decide +kernel
theorem dL_law_267 : decode cL_law 267 = .ok (.iload 8, 2) := by decide +kernel
theorem dL_law_269 : decode cL_law 269 = .ok (.iconst 0, 1) := by decide +kernel
theorem dL_law_270 : decode cL_law 270 = .ok (.iconst 0, 1) := by decide +kernel
theorem dL_law_271 : decode cL_law 271 = .ok (.invokestatic 110, 3) := by decide +kernel
theorem dL_law_274 : decode cL_law 274 = .ok (.istore 14, 2) := by decide +kernel
theorem dL_law_276 : decode cL_law 276 = .ok (.aload_n 1, 1) := by decide +kernel
theorem dL_law_277 : decode cL_law 277 = .ok (.bipush 8, 2) := by decide +kernel
theorem dL_law_279 : decode cL_law 279 = .ok (.iload 8, 2) := by decide +kernel
theorem dL_law_281 : decode cL_law 281 = .ok (.iload 10, 2) := by decide +kernel
theorem dL_law_283 : decode cL_law 283 = .ok (.bipush 8, 2) := by decide +kernel
theorem dL_law_285 : decode cL_law 285 = .ok (.if_icmp .ne 8, 3) := by decide +kernel
theorem dL_law_288 : decode cL_law 288 = .ok (.bipush 112, 2) := by decide +kernel
theorem dL_law_290 : decode cL_law 290 = .ok (.goto 17, 3) := by decide +kernel
theorem dL_law_293 : decode cL_law 293 = .ok (.iload 10, 2) := by decide +kernel
theorem dL_law_295 : decode cL_law 295 = .ok (.bipush 9, 2) := by decide +kernel
theorem dL_law_297 : decode cL_law 297 = .ok (.if_icmp .ne 8, 3) := by decide +kernel
theorem dL_law_300 : decode cL_law 300 = .ok (.bipush 108, 2) := by decide +kernel
theorem dL_law_302 : decode cL_law 302 = .ok (.goto 5, 3) := by decide +kernel
theorem dL_law_305 : decode cL_law 305 = .ok (.bipush 120, 2) := by decide +kernel
theorem dL_law_307 : decode cL_law 307 = .ok (.aload_n 1, 1) := by decide +kernel
theorem dL_law_308 : decode cL_law 308 = .ok (.invokevirtual 124, 3) := by decide +kernel
theorem dL_law_311 : decode cL_law 311 = .ok (.iload 7, 2) := by decide +kernel
theorem dL_law_313 : decode cL_law 313 = .ok (.bipush 13, 2) := by decide +kernel
theorem dL_law_315 : decode cL_law 315 = .ok (.ishr, 1) := by decide +kernel
theorem dL_law_316 : decode cL_law 316 = .ok (.bipush 7, 2) := by decide +kernel
theorem dL_law_318 : decode cL_law 318 = .ok (.invokestatic 139, 3) := by decide +kernel
theorem dL_law_321 : decode cL_law 321 = .ok (.iadd, 1) := by decide +kernel
theorem dL_law_322 : decode cL_law 322 = .ok (.invokestatic 110, 3) := by decide +kernel
theorem dL_law_325 : decode cL_law 325 = .ok (.istore 13, 2) := by decide +kernel
theorem dL_law_327 : decode cL_law 327 = .ok (.iload 13, 2) := by decide +kernel
theorem dL_law_329 : decode cL_law 329 = .ok (.iconst 1, 1) := by decide +kernel
theorem dL_law_330 : decode cL_law 330 = .ok (.if_icmp .ne 23, 3) := by decide +kernel
theorem dL_law_333 : decode cL_law 333 = .ok (.iload 14, 2) := by decide +kernel
theorem dL_law_335 : decode cL_law 335 = .ok (.ifCond .lt 30, 3) := by decide +kernel
theorem dL_law_338 : decode cL_law 338 = .ok (.aload_n 1, 1) := by decide +kernel
theorem dL_law_339 : decode cL_law 339 = .ok (.bipush 22, 2) := by decide +kernel
theorem dL_law_341 : decode cL_law 341 = .ok (.iload 14, 2) := by decide +kernel
theorem dL_law_343 : decode cL_law 343 = .ok (.iconst 0, 1) := by decide +kernel
theorem dL_law_344 : decode cL_law 344 = .ok (.iconst 0, 1) := by decide +kernel
theorem dL_law_345 : decode cL_law 345 = .ok (.invokestatic 110, 3) := by decide +kernel
theorem dL_law_348 : decode cL_law 348 = .ok (.bipush 103, 2) := by decide +kernel
theorem dL_law_350 : decode cL_law 350 = .ok (.if_icmp .ne 15, 3) := by decide +kernel
theorem dL_law_353 : decode cL_law 353 = .ok (.iload 13, 2) := by decide +kernel
theorem dL_law_355 : decode cL_law 355 = .ok (.ifCond .lt 12, 3) := by decide +kernel
theorem dL_law_358 : decode cL_law 358 = .ok (.iload 10, 2) := by decide +kernel
theorem dL_law_360 : decode cL_law 360 = .ok (.bipush 10, 2) := by decide +kernel
theorem dL_law_362 : decode cL_law 362 = .ok (.if_icmp .ne 5, 3) := by decide +kernel
theorem dL_law_365 : decode cL_law 365 = .ok (.iconst 0, 1) := by decide +kernel
theorem dL_law_366 : decode cL_law 366 = .ok (.ireturn, 1) := by decide +kernel
theorem dL_law_367 : decode cL_law 367 = .ok (.goto 564, 3) := by decide +kernel
theorem dL_law_370 : decode cL_law 370 = .ok (.iload 10, 2) := by decide +kernel
theorem dL_law_372 : decode cL_law 372 = .ok (.bipush 11, 2) := by decide +kernel
theorem dL_law_374 : decode cL_law 374 = .ok (.if_icmp .ne 18, 3) := by decide +kernel
theorem dL_law_377 : decode cL_law 377 = .ok (.aload_n 1, 1) := by decide +kernel
theorem dL_law_378 : decode cL_law 378 = .ok (.bipush 9, 2) := by decide +kernel
theorem dL_law_380 : decode cL_law 380 = .ok (.iload 8, 2) := by decide +kernel
theorem dL_law_382 : decode cL_law 382 = .ok (.iconst 0, 1) := by decide +kernel
theorem dL_law_383 : decode cL_law 383 = .ok (.iconst 0, 1) := by decide +kernel
theorem dL_law_384 : decode cL_law 384 = .ok (.invokestatic 110, 3) := by decide +kernel
theorem dL_law_387 : decode cL_law 387 = .ok (.istore 13, 2) := by decide +kernel
theorem dL_law_389 : decode cL_law 389 = .ok (.goto 542, 3) := by decide +kernel
theorem dL_law_392 : decode cL_law 392 = .ok (.iload 10, 2) := by decide +kernel
theorem dL_law_394 : decode cL_law 394 = .ok (.bipush 16, 2) := by decide +kernel
theorem dL_law_396 : decode cL_law 396 = .ok (.if_icmp .ge 90, 3) := by decide +kernel
theorem dL_law_399 : decode cL_law 399 = .ok (.aload_n 1, 1) := by decide +kernel
theorem dL_law_400 : decode cL_law 400 = .ok (.bipush 13, 2) := by decide +kernel
theorem dL_law_402 : decode cL_law 402 = .ok (.iload 8, 2) := by decide +kernel
theorem dL_law_404 : decode cL_law 404 = .ok (.iload 9, 2) := by decide +kernel
theorem dL_law_406 : decode cL_law 406 = .ok (.iconst 0, 1) := by decide +kernel
theorem dL_law_407 : decode cL_law 407 = .ok (.invokestatic 110, 3) := by decide +kernel
theorem dL_law_410 : decode cL_law 410 = .ok (.istore 14, 2) := by decide +kernel
theorem dL_law_412 : decode cL_law 412 = .ok (.aload_n 1, 1) := by decide +kernel
theorem dL_law_413 : decode cL_law 413 = .ok (.bipush 14, 2) := by decide +kernel
theorem dL_law_415 : decode cL_law 415 = .ok (.iload 8, 2) := by decide +kernel
theorem dL_law_417 : decode cL_law 417 = .ok (.iload 9, 2) := by decide +kernel
theorem dL_law_419 : decode cL_law 419 = .ok (.iconst 0, 1) := by decide +kernel
theorem dL_law_420 : decode cL_law 420 = .ok (.invokestatic 110, 3) := by decide +kernel
theorem dL_law_423 : decode cL_law 423 = .ok (.istore 13, 2) := by decide +kernel
theorem dL_law_425 : decode cL_law 425 = .ok (.iload 14, 2) := by decide +kernel
theorem dL_law_427 : decode cL_law 427 = .ok (.bipush 45, 2) := by decide +kernel
theorem dL_law_429 : decode cL_law 429 = .ok (.if_icmp .ne 7, 3) := by decide +kernel
theorem dL_law_432 : decode cL_law 432 = .ok (.iconst 1, 1) := by decide +kernel
theorem dL_law_433 : decode cL_law 433 = .ok (.goto 4, 3) := by decide +kernel
theorem dL_law_436 : decode cL_law 436 = .ok (.iconst 0, 1) := by decide +kernel
theorem dL_law_437 : decode cL_law 437 = .ok (.iload 13, 2) := by decide +kernel
theorem dL_law_439 : decode cL_law 439 = .ok (.ifCond .lt 7, 3) := by decide +kernel
theorem dL_law_442 : decode cL_law 442 = .ok (.iconst 1, 1) := by decide +kernel
theorem dL_law_443 : decode cL_law 443 = .ok (.goto 4, 3) := by decide +kernel
theorem dL_law_446 : decode cL_law 446 = .ok (.iconst 0, 1) := by decide +kernel
theorem dL_law_447 : decode cL_law 447 = .ok (.if_icmp .ne 34, 3) := by decide +kernel
theorem dL_law_450 : decode cL_law 450 = .ok (.iload 13, 2) := by decide +kernel
theorem dL_law_452 : decode cL_law 452 = .ok (.ifCond .lt 31, 3) := by decide +kernel
theorem dL_law_455 : decode cL_law 455 = .ok (.aload_n 1, 1) := by decide +kernel
theorem dL_law_456 : decode cL_law 456 = .ok (.iconst 3, 1) := by decide +kernel
theorem dL_law_457 : decode cL_law 457 = .ok (.iload 8, 2) := by decide +kernel
theorem dL_law_459 : decode cL_law 459 = .ok (.iconst 0, 1) := by decide +kernel
theorem dL_law_460 : decode cL_law 460 = .ok (.iconst 0, 1) := by decide +kernel
theorem dL_law_461 : decode cL_law 461 = .ok (.invokestatic 110, 3) := by decide +kernel
theorem dL_law_464 : decode cL_law 464 = .ok (.iload 9, 2) := by decide +kernel
theorem dL_law_466 : decode cL_law 466 = .ok (.if_icmp .ne 15, 3) := by decide +kernel
theorem dL_law_469 : decode cL_law 469 = .ok (.aload_n 1, 1) := by decide +kernel
theorem dL_law_470 : decode cL_law 470 = .ok (.iconst 5, 1) := by decide +kernel
theorem dL_law_471 : decode cL_law 471 = .ok (.iload 8, 2) := by decide +kernel
theorem dL_law_473 : decode cL_law 473 = .ok (.iconst 0, 1) := by decide +kernel
theorem dL_law_474 : decode cL_law 474 = .ok (.iconst 0, 1) := by decide +kernel
theorem dL_law_475 : decode cL_law 475 = .ok (.invokestatic 110, 3) := by decide +kernel
theorem dL_law_478 : decode cL_law 478 = .ok (.ifCond .eq 5, 3) := by decide +kernel
theorem dL_law_481 : decode cL_law 481 = .ok (.iconst 0, 1) := by decide +kernel
theorem dL_law_482 : decode cL_law 482 = .ok (.ireturn, 1) := by decide +kernel
theorem dL_law_483 : decode cL_law 483 = .ok (.goto 448, 3) := by decide +kernel
theorem dL_law_486 : decode cL_law 486 = .ok (.iload 10, 2) := by decide +kernel
theorem dL_law_488 : decode cL_law 488 = .ok (.bipush 20, 2) := by decide +kernel
theorem dL_law_490 : decode cL_law 490 = .ok (.if_icmp .ge 203, 3) := by decide +kernel
theorem dL_law_493 : decode cL_law 493 = .ok (.aload_n 1, 1) := by decide +kernel
theorem dL_law_494 : decode cL_law 494 = .ok (.bipush 15, 2) := by decide +kernel
theorem dL_law_496 : decode cL_law 496 = .ok (.iload 8, 2) := by decide +kernel
theorem dL_law_498 : decode cL_law 498 = .ok (.iconst 0, 1) := by decide +kernel
theorem dL_law_499 : decode cL_law 499 = .ok (.iconst 0, 1) := by decide +kernel
theorem dL_law_500 : decode cL_law 500 = .ok (.invokestatic 110, 3) := by decide +kernel
theorem dL_law_503 : decode cL_law 503 = .ok (.istore 14, 2) := by decide +kernel
theorem dL_law_505 : decode cL_law 505 = .ok (.aload_n 1, 1) := by decide +kernel
theorem dL_law_506 : decode cL_law 506 = .ok (.iconst 4, 1) := by decide +kernel
theorem dL_law_507 : decode cL_law 507 = .ok (.iload 8, 2) := by decide +kernel
theorem dL_law_509 : decode cL_law 509 = .ok (.iconst 0, 1) := by decide +kernel
theorem dL_law_510 : decode cL_law 510 = .ok (.iconst 0, 1) := by decide +kernel
theorem dL_law_511 : decode cL_law 511 = .ok (.invokestatic 110, 3) := by decide +kernel
theorem dL_law_514 : decode cL_law 514 = .ok (.istore 15, 2) := by decide +kernel
theorem dL_law_516 : decode cL_law 516 = .ok (.aload_n 1, 1) := by decide +kernel
theorem dL_law_517 : decode cL_law 517 = .ok (.iconst 3, 1) := by decide +kernel
theorem dL_law_518 : decode cL_law 518 = .ok (.iload 8, 2) := by decide +kernel
theorem dL_law_520 : decode cL_law 520 = .ok (.iconst 0, 1) := by decide +kernel
theorem dL_law_521 : decode cL_law 521 = .ok (.iconst 0, 1) := by decide +kernel
theorem dL_law_522 : decode cL_law 522 = .ok (.invokestatic 110, 3) := by decide +kernel
theorem dL_law_525 : decode cL_law 525 = .ok (.istore 16, 2) := by decide +kernel
theorem dL_law_527 : decode cL_law 527 = .ok (.aload_n 1, 1) := by decide +kernel
theorem dL_law_528 : decode cL_law 528 = .ok (.invokevirtual 120, 3) := by decide +kernel
theorem dL_law_531 : decode cL_law 531 = .ok (.istore 17, 2) := by decide +kernel
theorem dL_law_533 : decode cL_law 533 = .ok (.iload 14, 2) := by decide +kernel
theorem dL_law_535 : decode cL_law 535 = .ok (.ifCond .le 19, 3) := by decide +kernel
theorem dL_law_538 : decode cL_law 538 = .ok (.aload_n 1, 1) := by decide +kernel
theorem dL_law_539 : decode cL_law 539 = .ok (.bipush 17, 2) := by decide +kernel
theorem dL_law_541 : decode cL_law 541 = .ok (.iload 8, 2) := by decide +kernel
theorem dL_law_543 : decode cL_law 543 = .ok (.iload 14, 2) := by decide +kernel
theorem dL_law_545 : decode cL_law 545 = .ok (.iconst 1, 1) := by decide +kernel
theorem dL_law_546 : decode cL_law 546 = .ok (.isub, 1) := by decide +kernel
theorem dL_law_547 : decode cL_law 547 = .ok (.iconst 0, 1) := by decide +kernel
theorem dL_law_548 : decode cL_law 548 = .ok (.invokestatic 110, 3) := by decide +kernel
theorem dL_law_551 : decode cL_law 551 = .ok (.goto 4, 3) := by decide +kernel
theorem dL_law_554 : decode cL_law 554 = .ok (.iconst (-1), 1) := by decide +kernel
theorem dL_law_555 : decode cL_law 555 = .ok (.istore 18, 2) := by decide +kernel
theorem dL_law_557 : decode cL_law 557 = .ok (.iload 14, 2) := by decide +kernel
theorem dL_law_559 : decode cL_law 559 = .ok (.ifCond .le 19, 3) := by decide +kernel
theorem dL_law_562 : decode cL_law 562 = .ok (.aload_n 1, 1) := by decide +kernel
theorem dL_law_563 : decode cL_law 563 = .ok (.bipush 18, 2) := by decide +kernel
theorem dL_law_565 : decode cL_law 565 = .ok (.iload 8, 2) := by decide +kernel
theorem dL_law_567 : decode cL_law 567 = .ok (.iload 14, 2) := by decide +kernel
theorem dL_law_569 : decode cL_law 569 = .ok (.iconst 1, 1) := by decide +kernel
theorem dL_law_570 : decode cL_law 570 = .ok (.isub, 1) := by decide +kernel
theorem dL_law_571 : decode cL_law 571 = .ok (.iconst 0, 1) := by decide +kernel
theorem dL_law_572 : decode cL_law 572 = .ok (.invokestatic 110, 3) := by decide +kernel
theorem dL_law_575 : decode cL_law 575 = .ok (.goto 4, 3) := by decide +kernel
theorem dL_law_578 : decode cL_law 578 = .ok (.iconst (-1), 1) := by decide +kernel
theorem dL_law_579 : decode cL_law 579 = .ok (.istore 19, 2) := by decide +kernel
theorem dL_law_581 : decode cL_law 581 = .ok (.aload_n 1, 1) := by decide +kernel
theorem dL_law_582 : decode cL_law 582 = .ok (.bipush 19, 2) := by decide +kernel
theorem dL_law_584 : decode cL_law 584 = .ok (.iload 8, 2) := by decide +kernel
theorem dL_law_586 : decode cL_law 586 = .ok (.iconst 0, 1) := by decide +kernel
theorem dL_law_587 : decode cL_law 587 = .ok (.iconst 0, 1) := by decide +kernel
theorem dL_law_588 : decode cL_law 588 = .ok (.invokestatic 110, 3) := by decide +kernel
theorem dL_law_591 : decode cL_law 591 = .ok (.istore 13, 2) := by decide +kernel
theorem dL_law_593 : decode cL_law 593 = .ok (.iload 13, 2) := by decide +kernel
theorem dL_law_595 : decode cL_law 595 = .ok (.iload 14, 2) := by decide +kernel
theorem dL_law_597 : decode cL_law 597 = .ok (.if_icmp .ne 91, 3) := by decide +kernel
theorem dL_law_600 : decode cL_law 600 = .ok (.iload 13, 2) := by decide +kernel
theorem dL_law_602 : decode cL_law 602 = .ok (.ifCond .lt 88, 3) := by decide +kernel
theorem dL_law_605 : decode cL_law 605 = .ok (.aload_n 1, 1) := by decide +kernel
theorem dL_law_606 : decode cL_law 606 = .ok (.iconst 5, 1) := by decide +kernel
theorem dL_law_607 : decode cL_law 607 = .ok (.iload 8, 2) := by decide +kernel
theorem dL_law_609 : decode cL_law 609 = .ok (.iconst 0, 1) := by decide +kernel
theorem dL_law_610 : decode cL_law 610 = .ok (.iconst 0, 1) := by decide +kernel
theorem dL_law_611 : decode cL_law 611 = .ok (.invokestatic 110, 3) := by decide +kernel
theorem dL_law_614 : decode cL_law 614 = .ok (.ifCond .ne 74, 3) := by decide +kernel
theorem dL_law_617 : decode cL_law 617 = .ok (.aload_n 1, 1) := by decide +kernel
theorem dL_law_618 : decode cL_law 618 = .ok (.iconst 4, 1) := by decide +kernel
theorem dL_law_619 : decode cL_law 619 = .ok (.iload 8, 2) := by decide +kernel
theorem dL_law_621 : decode cL_law 621 = .ok (.iconst 0, 1) := by decide +kernel
theorem dL_law_622 : decode cL_law 622 = .ok (.iconst 0, 1) := by decide +kernel
theorem dL_law_623 : decode cL_law 623 = .ok (.invokestatic 110, 3) := by decide +kernel
theorem dL_law_626 : decode cL_law 626 = .ok (.iload 15, 2) := by decide +kernel
theorem dL_law_628 : decode cL_law 628 = .ok (.if_icmp .ne 60, 3) := by decide +kernel
theorem dL_law_631 : decode cL_law 631 = .ok (.aload_n 1, 1) := by decide +kernel
theorem dL_law_632 : decode cL_law 632 = .ok (.iconst 3, 1) := by decide +kernel
theorem dL_law_633 : decode cL_law 633 = .ok (.iload 8, 2) := by decide +kernel
theorem dL_law_635 : decode cL_law 635 = .ok (.iconst 0, 1) := by decide +kernel
theorem dL_law_636 : decode cL_law 636 = .ok (.iconst 0, 1) := by decide +kernel
theorem dL_law_637 : decode cL_law 637 = .ok (.invokestatic 110, 3) := by decide +kernel
theorem dL_law_640 : decode cL_law 640 = .ok (.iload 16, 2) := by decide +kernel
theorem dL_law_642 : decode cL_law 642 = .ok (.if_icmp .ne 46, 3) := by decide +kernel
theorem dL_law_645 : decode cL_law 645 = .ok (.aload_n 1, 1) := by decide +kernel
theorem dL_law_646 : decode cL_law 646 = .ok (.invokevirtual 120, 3) := by decide +kernel
theorem dL_law_649 : decode cL_law 649 = .ok (.iload 17, 2) := by decide +kernel
theorem dL_law_651 : decode cL_law 651 = .ok (.iload 14, 2) := by decide +kernel
theorem dL_law_653 : decode cL_law 653 = .ok (.iadd, 1) := by decide +kernel
theorem dL_law_654 : decode cL_law 654 = .ok (.if_icmp .ne 34, 3) := by decide +kernel
theorem dL_law_657 : decode cL_law 657 = .ok (.iload 14, 2) := by decide +kernel
theorem dL_law_659 : decode cL_law 659 = .ok (.ifCond .le 31, 3) := by decide +kernel
theorem dL_law_662 : decode cL_law 662 = .ok (.aload_n 1, 1) := by decide +kernel
theorem dL_law_663 : decode cL_law 663 = .ok (.iconst 3, 1) := by decide +kernel
theorem dL_law_664 : decode cL_law 664 = .ok (.iload 18, 2) := by decide +kernel
theorem dL_law_666 : decode cL_law 666 = .ok (.iconst 0, 1) := by decide +kernel
theorem dL_law_667 : decode cL_law 667 = .ok (.iconst 0, 1) := by decide +kernel
theorem dL_law_668 : decode cL_law 668 = .ok (.invokestatic 110, 3) := by decide +kernel
theorem dL_law_671 : decode cL_law 671 = .ok (.iload 19, 2) := by decide +kernel
theorem dL_law_673 : decode cL_law 673 = .ok (.if_icmp .ne 15, 3) := by decide +kernel
theorem dL_law_676 : decode cL_law 676 = .ok (.aload_n 1, 1) := by decide +kernel
theorem dL_law_677 : decode cL_law 677 = .ok (.iconst 5, 1) := by decide +kernel
theorem dL_law_678 : decode cL_law 678 = .ok (.iload 18, 2) := by decide +kernel
theorem dL_law_680 : decode cL_law 680 = .ok (.iconst 0, 1) := by decide +kernel
theorem dL_law_681 : decode cL_law 681 = .ok (.iconst 0, 1) := by decide +kernel
theorem dL_law_682 : decode cL_law 682 = .ok (.invokestatic 110, 3) := by decide +kernel
theorem dL_law_685 : decode cL_law 685 = .ok (.ifCond .eq 5, 3) := by decide +kernel
theorem dL_law_688 : decode cL_law 688 = .ok (.iconst 0, 1) := by decide +kernel
theorem dL_law_689 : decode cL_law 689 = .ok (.ireturn, 1) := by decide +kernel
theorem dL_law_690 : decode cL_law 690 = .ok (.goto 241, 3) := by decide +kernel
theorem dL_law_693 : decode cL_law 693 = .ok (.iload 10, 2) := by decide +kernel
theorem dL_law_695 : decode cL_law 695 = .ok (.bipush 25, 2) := by decide +kernel
theorem dL_law_697 : decode cL_law 697 = .ok (.if_icmp .ge 158, 3) := by decide +kernel
theorem dL_law_700 : decode cL_law 700 = .ok (.iload 7, 2) := by decide +kernel
theorem dL_law_702 : decode cL_law 702 = .ok (.bipush 13, 2) := by decide +kernel
theorem dL_law_704 : decode cL_law 704 = .ok (.ishr, 1) := by decide +kernel
theorem dL_law_705 : decode cL_law 705 = .ok (.iconst 4, 1) := by decide +kernel
theorem dL_law_706 : decode cL_law 706 = .ok (.invokestatic 139, 3) := by decide +kernel
theorem dL_law_709 : decode cL_law 709 = .ok (.ifCond .ne 16, 3) := by decide +kernel
theorem dL_law_712 : decode cL_law 712 = .ok (.aload_n 1, 1) := by decide +kernel
theorem dL_law_713 : decode cL_law 713 = .ok (.bipush 25, 2) := by decide +kernel
theorem dL_law_715 : decode cL_law 715 = .ok (.iload 8, 2) := by decide +kernel
theorem dL_law_717 : decode cL_law 717 = .ok (.iconst 0, 1) := by decide +kernel
theorem dL_law_718 : decode cL_law 718 = .ok (.iconst 0, 1) := by decide +kernel
theorem dL_law_719 : decode cL_law 719 = .ok (.invokestatic 110, 3) := by decide +kernel
theorem dL_law_722 : decode cL_law 722 = .ok (.goto 18, 3) := by decide +kernel
theorem dL_law_725 : decode cL_law 725 = .ok (.aload_n 1, 1) := by decide +kernel
theorem dL_law_726 : decode cL_law 726 = .ok (.invokevirtual 124, 3) := by decide +kernel
theorem dL_law_729 : decode cL_law 729 = .ok (.iload 7, 2) := by decide +kernel
theorem dL_law_731 : decode cL_law 731 = .ok (.bipush 15, 2) := by decide +kernel
theorem dL_law_733 : decode cL_law 733 = .ok (.ishr, 1) := by decide +kernel
theorem dL_law_734 : decode cL_law 734 = .ok (.bipush 6, 2) := by decide +kernel
theorem dL_law_736 : decode cL_law 736 = .ok (.invokestatic 139, 3) := by decide +kernel
theorem dL_law_739 : decode cL_law 739 = .ok (.iadd, 1) := by decide +kernel
theorem dL_law_740 : decode cL_law 740 = .ok (.istore 14, 2) := by decide +kernel
theorem dL_law_742 : decode cL_law 742 = .ok (.aload_n 1, 1) := by decide +kernel
theorem dL_law_743 : decode cL_law 743 = .ok (.bipush 11, 2) := by decide +kernel
theorem dL_law_745 : decode cL_law 745 = .ok (.iload 8, 2) := by decide +kernel
theorem dL_law_747 : decode cL_law 747 = .ok (.iconst 0, 1) := by decide +kernel
theorem dL_law_748 : decode cL_law 748 = .ok (.iconst 0, 1) := by decide +kernel
theorem dL_law_749 : decode cL_law 749 = .ok (.invokestatic 110, 3) := by decide +kernel
theorem dL_law_752 : decode cL_law 752 = .ok (.istore 15, 2) := by decide +kernel
theorem dL_law_754 : decode cL_law 754 = .ok (.aload_n 1, 1) := by decide +kernel
theorem dL_law_755 : decode cL_law 755 = .ok (.bipush 20, 2) := by decide +kernel
theorem dL_law_757 : decode cL_law 757 = .ok (.iload 8, 2) := by decide +kernel
theorem dL_law_759 : decode cL_law 759 = .ok (.iload 14, 2) := by decide +kernel
theorem dL_law_761 : decode cL_law 761 = .ok (.iload 7, 2) := by decide +kernel
theorem dL_law_763 : decode cL_law 763 = .ok (.bipush 18, 2) := by decide +kernel
theorem dL_law_765 : decode cL_law 765 = .ok (.ishr, 1) := by decide +kernel
theorem dL_law_766 : decode cL_law 766 = .ok (.iconst 4, 1) := by decide +kernel
theorem dL_law_767 : decode cL_law 767 = .ok (.invokestatic 139, 3) := by decide +kernel
theorem dL_law_770 : decode cL_law 770 = .ok (.invokestatic 110, 3) := by decide +kernel
theorem dL_law_773 : decode cL_law 773 = .ok (.istore 13, 2) := by decide +kernel
theorem dL_law_775 : decode cL_law 775 = .ok (.iload 13, 2) := by decide +kernel
theorem dL_law_777 : decode cL_law 777 = .ok (.ifCond .lt 75, 3) := by decide +kernel
theorem dL_law_780 : decode cL_law 780 = .ok (.iload 13, 2) := by decide +kernel
theorem dL_law_782 : decode cL_law 782 = .ok (.iload 5, 2) := by decide +kernel
theorem dL_law_784 : decode cL_law 784 = .ok (.if_icmp .ne 63, 3) := by decide +kernel
theorem dL_law_787 : decode cL_law 787 = .ok (.aload_n 1, 1) := by decide +kernel
theorem dL_law_788 : decode cL_law 788 = .ok (.bipush 22, 2) := by decide +kernel
theorem dL_law_790 : decode cL_law 790 = .ok (.iload 13, 2) := by decide +kernel
theorem dL_law_792 : decode cL_law 792 = .ok (.iconst 0, 1) := by decide +kernel
theorem dL_law_793 : decode cL_law 793 = .ok (.iconst 0, 1) := by decide +kernel
theorem dL_law_794 : decode cL_law 794 = .ok (.invokestatic 110, 3) := by decide +kernel
theorem dL_law_797 : decode cL_law 797 = .ok (.bipush 98, 2) := by decide +kernel
theorem dL_law_799 : decode cL_law 799 = .ok (.if_icmp .ne 48, 3) := by decide +kernel
theorem dL_law_802 : decode cL_law 802 = .ok (.aload_n 1, 1) := by decide +kernel
theorem dL_law_803 : decode cL_law 803 = .ok (.bipush 23, 2) := by decide +kernel
theorem dL_law_805 : decode cL_law 805 = .ok (.iload 8, 2) := by decide +kernel
theorem dL_law_807 : decode cL_law 807 = .ok (.iconst 0, 1) := by decide +kernel
theorem dL_law_808 : decode cL_law 808 = .ok (.iconst 0, 1) := by decide +kernel
theorem dL_law_809 : decode cL_law 809 = .ok (.invokestatic 110, 3) := by decide +kernel
theorem dL_law_812 : decode cL_law 812 = .ok (.iload 13, 2) := by decide +kernel
theorem dL_law_814 : decode cL_law 814 = .ok (.if_icmp .ne 33, 3) := by decide +kernel
theorem dL_law_817 : decode cL_law 817 = .ok (.aload_n 1, 1) := by decide +kernel
theorem dL_law_818 : decode cL_law 818 = .ok (.bipush 24, 2) := by decide +kernel
theorem dL_law_820 : decode cL_law 820 = .ok (.iload 7, 2) := by decide +kernel
theorem dL_law_822 : decode cL_law 822 = .ok (.bipush 18, 2) := by decide +kernel
theorem dL_law_824 : decode cL_law 824 = .ok (.ishr, 1) := by decide +kernel
theorem dL_law_825 : decode cL_law 825 = .ok (.iconst 4, 1) := by decide +kernel
theorem dL_law_826 : decode cL_law 826 = .ok (.invokestatic 139, 3) := by decide +kernel
theorem dL_law_829 : decode cL_law 829 = .ok (.iload 14, 2) := by decide +kernel
theorem dL_law_831 : decode cL_law 831 = .ok (.iconst 0, 1) := by decide +kernel
theorem dL_law_832 : decode cL_law 832 = .ok (.invokestatic 110, 3) := by decide +kernel
theorem dL_law_835 : decode cL_law 835 = .ok (.iload 13, 2) := by decide +kernel
theorem dL_law_837 : decode cL_law 837 = .ok (.if_icmp .ne 10, 3) := by decide +kernel
theorem dL_law_840 : decode cL_law 840 = .ok (.iload 15, 2) := by decide +kernel
theorem dL_law_842 : decode cL_law 842 = .ok (.iload 14, 2) := by decide +kernel
theorem dL_law_844 : decode cL_law 844 = .ok (.if_icmp .le 5, 3) := by decide +kernel
theorem dL_law_847 : decode cL_law 847 = .ok (.iconst 0, 1) := by decide +kernel
theorem dL_law_848 : decode cL_law 848 = .ok (.ireturn, 1) := by decide +kernel
theorem dL_law_849 : decode cL_law 849 = .ok (.iinc 5 1, 3) := by decide +kernel
theorem dL_law_852 : decode cL_law 852 = .ok (.goto 79, 3) := by decide +kernel
theorem dL_law_855 : decode cL_law 855 = .ok (.iload 10, 2) := by decide +kernel
theorem dL_law_857 : decode cL_law 857 = .ok (.bipush 25, 2) := by decide +kernel
theorem dL_law_859 : decode cL_law 859 = .ok (.if_icmp .ne 28, 3) := by decide +kernel
theorem dL_law_862 : decode cL_law 862 = .ok (.aload_n 1, 1) := by decide +kernel
theorem dL_law_863 : decode cL_law 863 = .ok (.bipush 21, 2) := by decide +kernel
theorem dL_law_865 : decode cL_law 865 = .ok (.iload 7, 2) := by decide +kernel
theorem dL_law_867 : decode cL_law 867 = .ok (.bipush 13, 2) := by decide +kernel
theorem dL_law_869 : decode cL_law 869 = .ok (.ishr, 1) := by decide +kernel
theorem dL_law_870 : decode cL_law 870 = .ok (.iload 5, 2) := by decide +kernel
theorem dL_law_872 : decode cL_law 872 = .ok (.iconst 1, 1) := by decide +kernel
theorem dL_law_873 : decode cL_law 873 = .ok (.iadd, 1) := by decide +kernel
theorem dL_law_874 : decode cL_law 874 = .ok (.invokestatic 139, 3) := by decide +kernel
theorem dL_law_877 : decode cL_law 877 = .ok (.iconst 0, 1) := by decide +kernel
theorem dL_law_878 : decode cL_law 878 = .ok (.iconst 0, 1) := by decide +kernel
theorem dL_law_879 : decode cL_law 879 = .ok (.invokestatic 110, 3) := by decide +kernel
theorem dL_law_882 : decode cL_law 882 = .ok (.istore 13, 2) := by decide +kernel
theorem dL_law_884 : decode cL_law 884 = .ok (.goto 47, 3) := by decide +kernel
theorem dL_law_887 : decode cL_law 887 = .ok (.aload_n 1, 1) := by decide +kernel
theorem dL_law_888 : decode cL_law 888 = .ok (.invokevirtual 131, 3) := by decide +kernel
theorem dL_law_891 : decode cL_law 891 = .ok (.istore 14, 2) := by decide +kernel
theorem dL_law_893 : decode cL_law 893 = .ok (.aload_n 1, 1) := by decide +kernel
theorem dL_law_894 : decode cL_law 894 = .ok (.bipush 26, 2) := by decide +kernel
theorem dL_law_896 : decode cL_law 896 = .ok (.iload 7, 2) := by decide +kernel
theorem dL_law_898 : decode cL_law 898 = .ok (.bipush 13, 2) := by decide +kernel
theorem dL_law_900 : decode cL_law 900 = .ok (.ishr, 1) := by decide +kernel
theorem dL_law_901 : decode cL_law 901 = .ok (.iconst 5, 1) := by decide +kernel
theorem dL_law_902 : decode cL_law 902 = .ok (.invokestatic 139, 3) := by decide +kernel
theorem dL_law_905 : decode cL_law 905 = .ok (.iconst 0, 1) := by decide +kernel
theorem dL_law_906 : decode cL_law 906 = .ok (.iconst 0, 1) := by decide +kernel
theorem dL_law_907 : decode cL_law 907 = .ok (.invokestatic 110, 3) := by decide +kernel
theorem dL_law_910 : decode cL_law 910 = .ok (.istore 13, 2) := by decide +kernel
theorem dL_law_912 : decode cL_law 912 = .ok (.iload 13, 2) := by decide +kernel
theorem dL_law_914 : decode cL_law 914 = .ok (.ifCond .lt 17, 3) := by decide +kernel
theorem dL_law_917 : decode cL_law 917 = .ok (.aload_n 1, 1) := by decide +kernel
theorem dL_law_918 : decode cL_law 918 = .ok (.invokevirtual 131, 3) := by decide +kernel
theorem dL_law_921 : decode cL_law 921 = .ok (.iload 14, 2) := by decide +kernel
theorem dL_law_923 : decode cL_law 923 = .ok (.iload 13, 2) := by decide +kernel
theorem dL_law_925 : decode cL_law 925 = .ok (.isub, 1) := by decide +kernel
theorem dL_law_926 : decode cL_law 926 = .ok (.if_icmp .eq 5, 3) := by decide +kernel
theorem dL_law_929 : decode cL_law 929 = .ok (.iconst 0, 1) := by decide +kernel
theorem dL_law_930 : decode cL_law 930 = .ok (.ireturn, 1) := by decide +kernel
theorem dL_law_931 : decode cL_law 931 = .ok (.iload 13, 2) := by decide +kernel
theorem dL_law_933 : decode cL_law 933 = .ok (.ifCond .ge 16, 3) := by decide +kernel
theorem dL_law_936 : decode cL_law 936 = .ok (.aload_n 1, 1) := by decide +kernel
theorem dL_law_937 : decode cL_law 937 = .ok (.iload_n 2, 1) := by decide +kernel
theorem dL_law_938 : decode cL_law 938 = .ok (.iload 5, 2) := by decide +kernel
theorem dL_law_940 : decode cL_law 940 = .ok (.invokestatic 142, 3) := by decide +kernel
theorem dL_law_943 : decode cL_law 943 = .ok (.lload 11, 2) := by decide +kernel
theorem dL_law_945 : decode cL_law 945 = .ok (.lcmp, 1) := by decide +kernel
theorem dL_law_946 : decode cL_law 946 = .ok (.ifCond .ne 20, 3) := by decide +kernel
theorem dL_law_949 : decode cL_law 949 = .ok (.iload 6, 2) := by decide +kernel
theorem dL_law_951 : decode cL_law 951 = .ok (.iconst 3, 1) := by decide +kernel
theorem dL_law_952 : decode cL_law 952 = .ok (.irem, 1) := by decide +kernel
theorem dL_law_953 : decode cL_law 953 = .ok (.iconst 2, 1) := by decide +kernel
theorem dL_law_954 : decode cL_law 954 = .ok (.if_icmp .ne 14, 3) := by decide +kernel
theorem dL_law_957 : decode cL_law 957 = .ok (.aload_n 1, 1) := by decide +kernel
theorem dL_law_958 : decode cL_law 958 = .ok (.iload_n 2, 1) := by decide +kernel
theorem dL_law_959 : decode cL_law 959 = .ok (.aload_n 3, 1) := by decide +kernel
theorem dL_law_960 : decode cL_law 960 = .ok (.invokestatic 146, 3) := by decide +kernel
theorem dL_law_963 : decode cL_law 963 = .ok (.ifCond .ne 5, 3) := by decide +kernel
theorem dL_law_966 : decode cL_law 966 = .ok (.iconst 0, 1) := by decide +kernel
theorem dL_law_967 : decode cL_law 967 = .ok (.ireturn, 1) := by decide +kernel
theorem dL_law_968 : decode cL_law 968 = .ok (.iconst 0, 1) := by decide +kernel
theorem dL_law_969 : decode cL_law 969 = .ok (.istore 14, 2) := by decide +kernel
theorem dL_law_971 : decode cL_law 971 = .ok (.iload 14, 2) := by decide +kernel
theorem dL_law_973 : decode cL_law 973 = .ok (.iload 4, 2) := by decide +kernel
theorem dL_law_975 : decode cL_law 975 = .ok (.if_icmp .ge 95, 3) := by decide +kernel
theorem dL_law_978 : decode cL_law 978 = .ok (.aload_n 1, 1) := by decide +kernel
theorem dL_law_979 : decode cL_law 979 = .ok (.bipush 11, 2) := by decide +kernel
theorem dL_law_981 : decode cL_law 981 = .ok (.iload 14, 2) := by decide +kernel
theorem dL_law_983 : decode cL_law 983 = .ok (.iconst 0, 1) := by decide +kernel
theorem dL_law_984 : decode cL_law 984 = .ok (.iconst 0, 1) := by decide +kernel
theorem dL_law_985 : decode cL_law 985 = .ok (.invokestatic 110, 3) := by decide +kernel
theorem dL_law_988 : decode cL_law 988 = .ok (.istore 15, 2) := by decide +kernel
theorem dL_law_990 : decode cL_law 990 = .ok (.aload_n 1, 1) := by decide +kernel
theorem dL_law_991 : decode cL_law 991 = .ok (.bipush 23, 2) := by decide +kernel
theorem dL_law_993 : decode cL_law 993 = .ok (.iload 14, 2) := by decide +kernel
theorem dL_law_995 : decode cL_law 995 = .ok (.iconst 0, 1) := by decide +kernel
theorem dL_law_996 : decode cL_law 996 = .ok (.iconst 0, 1) := by decide +kernel
theorem dL_law_997 : decode cL_law 997 = .ok (.invokestatic 110, 3) := by decide +kernel
theorem dL_law_1000 : decode cL_law 1000 = .ok (.istore 16, 2) := by decide +kernel
theorem dL_law_1002 : decode cL_law 1002 = .ok (.iload 15, 2) := by decide +kernel
theorem dL_law_1004 : decode cL_law 1004 = .ok (.ifCond .lt 12, 3) := by decide +kernel
theorem dL_law_1007 : decode cL_law 1007 = .ok (.iload 15, 2) := by decide +kernel
theorem dL_law_1009 : decode cL_law 1009 = .ok (.aload_n 1, 1) := by decide +kernel
theorem dL_law_1010 : decode cL_law 1010 = .ok (.invokevirtual 124, 3) := by decide +kernel
theorem dL_law_1013 : decode cL_law 1013 = .ok (.if_icmp .le 49, 3) := by decide +kernel
theorem dL_law_1016 : decode cL_law 1016 = .ok (.iload 16, 2) := by decide +kernel
theorem dL_law_1018 : decode cL_law 1018 = .ok (.ifCond .lt 18, 3) := by decide +kernel
theorem dL_law_1021 : decode cL_law 1021 = .ok (.aload_n 1, 1) := by decide +kernel
theorem dL_law_1022 : decode cL_law 1022 = .ok (.bipush 22, 2) := by decide +kernel
theorem dL_law_1024 : decode cL_law 1024 = .ok (.iload 16, 2) := by decide +kernel
theorem dL_law_1026 : decode cL_law 1026 = .ok (.iconst 0, 1) := by decide +kernel
theorem dL_law_1027 : decode cL_law 1027 = .ok (.iconst 0, 1) := by decide +kernel
theorem dL_law_1028 : decode cL_law 1028 = .ok (.invokestatic 110, 3) := by decide +kernel
theorem dL_law_1031 : decode cL_law 1031 = .ok (.bipush 98, 2) := by decide +kernel
theorem dL_law_1033 : decode cL_law 1033 = .ok (.if_icmp .ne 29, 3) := by decide +kernel
theorem dL_law_1036 : decode cL_law 1036 = .ok (.aload_n 1, 1) := by decide +kernel
theorem dL_law_1037 : decode cL_law 1037 = .ok (.iload 14, 2) := by decide +kernel
theorem dL_law_1039 : decode cL_law 1039 = .ok (.invokevirtual 150, 3) := by decide +kernel
theorem dL_law_1042 : decode cL_law 1042 = .ok (.aload_n 1, 1) := by decide +kernel
theorem dL_law_1043 : decode cL_law 1043 = .ok (.iconst 2, 1) := by decide +kernel
theorem dL_law_1044 : decode cL_law 1044 = .ok (.iload 14, 2) := by decide +kernel
theorem dL_law_1046 : decode cL_law 1046 = .ok (.iconst 0, 1) := by decide +kernel
theorem dL_law_1047 : decode cL_law 1047 = .ok (.iconst 0, 1) := by decide +kernel
theorem dL_law_1048 : decode cL_law 1048 = .ok (.invokestatic 110, 3) := by decide +kernel
theorem dL_law_1051 : decode cL_law 1051 = .ok (.ifCond .le 7, 3) := by decide +kernel
theorem dL_law_1054 : decode cL_law 1054 = .ok (.iconst 1, 1) := by decide +kernel
theorem dL_law_1055 : decode cL_law 1055 = .ok (.goto 4, 3) := by decide +kernel
theorem dL_law_1058 : decode cL_law 1058 = .ok (.iconst 0, 1) := by decide +kernel
theorem dL_law_1059 : decode cL_law 1059 = .ok (.if_icmp .eq 5, 3) := by decide +kernel
theorem dL_law_1062 : decode cL_law 1062 = .ok (.iconst 0, 1) := by decide +kernel
theorem dL_law_1063 : decode cL_law 1063 = .ok (.ireturn, 1) := by decide +kernel
theorem dL_law_1064 : decode cL_law 1064 = .ok (.iinc 14 1, 3) := by decide +kernel
theorem dL_law_1067 : decode cL_law 1067 = .ok (.goto (-96), 3) := by decide +kernel
theorem dL_law_1070 : decode cL_law 1070 = .ok (.iinc 6 1, 3) := by decide +kernel
theorem dL_law_1073 : decode cL_law 1073 = .ok (.goto (-989), 3) := by decide +kernel
theorem dL_law_1076 : decode cL_law 1076 = .ok (.aload_n 1, 1) := by decide +kernel
theorem dL_law_1077 : decode cL_law 1077 = .ok (.iload_n 2, 1) := by decide +kernel
theorem dL_law_1078 : decode cL_law 1078 = .ok (.aload_n 3, 1) := by decide +kernel
theorem dL_law_1079 : decode cL_law 1079 = .ok (.invokestatic 146, 3) := by decide +kernel
theorem dL_law_1082 : decode cL_law 1082 = .ok (.ifCond .eq 55, 3) := by decide +kernel
theorem dL_law_1085 : decode cL_law 1085 = .ok (.aload_n 1, 1) := by decide +kernel
theorem dL_law_1086 : decode cL_law 1086 = .ok (.bipush 26, 2) := by decide +kernel
theorem dL_law_1088 : decode cL_law 1088 = .ok (.iconst 0, 1) := by decide +kernel
theorem dL_law_1089 : decode cL_law 1089 = .ok (.iconst 0, 1) := by decide +kernel
theorem dL_law_1090 : decode cL_law 1090 = .ok (.iconst 0, 1) := by decide +kernel
theorem dL_law_1091 : decode cL_law 1091 = .ok (.invokestatic 110, 3) := by decide +kernel
theorem dL_law_1094 : decode cL_law 1094 = .ok (.sipush (-1002), 3) := by decide +kernel
theorem dL_law_1097 : decode cL_law 1097 = .ok (.if_icmp .ne 40, 3) := by decide +kernel
theorem dL_law_1100 : decode cL_law 1100 = .ok (.aload_n 1, 1) := by decide +kernel
theorem dL_law_1101 : decode cL_law 1101 = .ok (.bipush 22, 2) := by decide +kernel
theorem dL_law_1103 : decode cL_law 1103 = .ok (.iload 5, 2) := by decide +kernel
theorem dL_law_1105 : decode cL_law 1105 = .ok (.iconst 0, 1) := by decide +kernel
theorem dL_law_1106 : decode cL_law 1106 = .ok (.iconst 0, 1) := by decide +kernel
theorem dL_law_1107 : decode cL_law 1107 = .ok (.invokestatic 110, 3) := by decide +kernel
theorem dL_law_1110 : decode cL_law 1110 = .ok (.sipush (-1001), 3) := by decide +kernel
theorem dL_law_1113 : decode cL_law 1113 = .ok (.if_icmp .ne 24, 3) := by decide +kernel
theorem dL_law_1116 : decode cL_law 1116 = .ok (.aload_n 1, 1) := by decide +kernel
theorem dL_law_1117 : decode cL_law 1117 = .ok (.iconst (-1), 1) := by decide +kernel
theorem dL_law_1118 : decode cL_law 1118 = .ok (.invokevirtual 150, 3) := by decide +kernel
theorem dL_law_1121 : decode cL_law 1121 = .ok (.ifCond .ne 16, 3) := by decide +kernel
theorem dL_law_1124 : decode cL_law 1124 = .ok (.aload_n 1, 1) := by decide +kernel
theorem dL_law_1125 : decode cL_law 1125 = .ok (.bipush 20, 2) := by decide +kernel
theorem dL_law_1127 : decode cL_law 1127 = .ok (.invokevirtual 150, 3) := by decide +kernel
theorem dL_law_1130 : decode cL_law 1130 = .ok (.ifCond .ne 7, 3) := by decide +kernel
theorem dL_law_1133 : decode cL_law 1133 = .ok (.iconst 1, 1) := by decide +kernel
theorem dL_law_1134 : decode cL_law 1134 = .ok (.goto 4, 3) := by decide +kernel
theorem dL_law_1137 : decode cL_law 1137 = .ok (.iconst 0, 1) := by decide +kernel
theorem dL_law_1138 : decode cL_law 1138 = .ok (.ireturn, 1) := by decide +kernel
