theorem dX7_toSix_123 : decode cX7_toSix 123 = .ok (.aload_n 0, 1) := by decide +kernel
theorem dX7_toSix_124 : decode cX7_toSix 124 = .ok (.getfield 197, 3) := by decide +kernel
theorem dX7_toSix_127 : decode cX7_toSix 127 = .ok (.istore 11, 2) := by decide +kernel
theorem dX7_toSix_129 : decode cX7_toSix 129 = .ok (.aload_n 0, 1) := by decide +kernel
theorem dX7_toSix_130 : decode cX7_toSix 130 = .ok (.aload_n 0, 1) := by decide +kernel
theorem dX7_toSix_131 : decode cX7_toSix 131 = .ok (.getfield 185, 3) := by decide +kernel
theorem dX7_toSix_134 : decode cX7_toSix 134 = .ok (.bipush 8, 2) := by decide +kernel
theorem dX7_toSix_136 : decode cX7_toSix 136 = .ok (.iadd, 1) := by decide +kernel
theorem dX7_toSix_137 : decode cX7_toSix 137 = .ok (.iload_n 1, 1) := by decide +kernel
theorem dX7_toSix_138 : decode cX7_toSix 138 = .ok (.bipush 8, 2) := by decide +kernel
theorem dX7_toSix_140 : decode cX7_toSix 140 = .ok (.isub, 1) := by decide +kernel
theorem dX7_toSix_141 : decode cX7_toSix 141 = .ok (.invokevirtual 285, 3) := by decide +kernel
theorem dX7_toSix_144 : decode cX7_toSix 144 = .ok (.istore 12, 2) := by decide +kernel
theorem dX7_toSix_146 : decode cX7_toSix 146 = .ok (.aload_n 0, 1) := by decide +kernel
theorem dX7_toSix_147 : decode cX7_toSix 147 = .ok (.lload_n 3, 1) := by decide +kernel
theorem dX7_toSix_148 : decode cX7_toSix 148 = .ok (.putfield 143, 3) := by decide +kernel
theorem dX7_toSix_151 : decode cX7_toSix 151 = .ok (.aload_n 0, 1) := by decide +kernel
theorem dX7_toSix_152 : decode cX7_toSix 152 = .ok (.lload 5, 2) := by decide +kernel
theorem dX7_toSix_154 : decode cX7_toSix 154 = .ok (.putfield 146, 3) := by decide +kernel
theorem dX7_toSix_157 : decode cX7_toSix 157 = .ok (.aload_n 0, 1) := by decide +kernel
theorem dX7_toSix_158 : decode cX7_toSix 158 = .ok (.lload 7, 2) := by decide +kernel
theorem dX7_toSix_160 : decode cX7_toSix 160 = .ok (.putfield 149, 3) := by decide +kernel
theorem dX7_toSix_163 : decode cX7_toSix 163 = .ok (.aload_n 0, 1) := by decide +kernel
theorem dX7_toSix_164 : decode cX7_toSix 164 = .ok (.lload 9, 2) := by decide +kernel
theorem dX7_toSix_166 : decode cX7_toSix 166 = .ok (.putfield 152, 3) := by decide +kernel
theorem dX7_toSix_169 : decode cX7_toSix 169 = .ok (.aload_n 0, 1) := by decide +kernel
theorem dX7_toSix_170 : decode cX7_toSix 170 = .ok (.iload 11, 2) := by decide +kernel
theorem dX7_toSix_172 : decode cX7_toSix 172 = .ok (.putfield 197, 3) := by decide +kernel
theorem dX7_toSix_175 : decode cX7_toSix 175 = .ok (.iload 12, 2) := by decide +kernel
theorem dX7_toSix_177 : decode cX7_toSix 177 = .ok (.ifCond .ne 6, 3) := by decide +kernel
theorem dX7_toSix_180 : decode cX7_toSix 180 = .ok (.bipush 8, 2) := by decide +kernel
theorem dX7_toSix_182 : decode cX7_toSix 182 = .ok (.ireturn, 1) := by decide +kernel
theorem dX7_toSix_183 : decode cX7_toSix 183 = .ok (.aload_n 0, 1) := by decide +kernel
theorem dX7_toSix_184 : decode cX7_toSix 184 = .ok (.iconst 0, 1) := by decide +kernel
theorem dX7_toSix_185 : decode cX7_toSix 185 = .ok (.invokevirtual 203, 3) := by decide +kernel
theorem dX7_toSix_188 : decode cX7_toSix 188 = .ok (.aload_n 0, 1) := by decide +kernel
theorem dX7_toSix_189 : decode cX7_toSix 189 = .ok (.iconst 0, 1) := by decide +kernel
theorem dX7_toSix_190 : decode cX7_toSix 190 = .ok (.putfield 194, 3) := by decide +kernel
theorem dX7_toSix_193 : decode cX7_toSix 193 = .ok (.aload_n 0, 1) := by decide +kernel
theorem dX7_toSix_194 : decode cX7_toSix 194 = .ok (.iconst 0, 1) := by decide +kernel
theorem dX7_toSix_195 : decode cX7_toSix 195 = .ok (.putfield 191, 3) := by decide +kernel
theorem dX7_toSix_198 : decode cX7_toSix 198 = .ok (.aload_n 0, 1) := by decide +kernel
theorem dX7_toSix_199 : decode cX7_toSix 199 = .ok (.getfield 134, 3) := by decide +kernel
theorem dX7_toSix_202 : decode cX7_toSix 202 = .ok (.sipush 1240, 3) := by decide +kernel
theorem dX7_toSix_205 : decode cX7_toSix 205 = .ok (.if_icmp .le 10, 3) := by decide +kernel
theorem dX7_toSix_208 : decode cX7_toSix 208 = .ok (.aload_n 0, 1) := by decide +kernel
theorem dX7_toSix_209 : decode cX7_toSix 209 = .ok (.sipush 1240, 3) := by decide +kernel
theorem dX7_toSix_212 : decode cX7_toSix 212 = .ok (.putfield 134, 3) := by decide +kernel
theorem dX7_toSix_215 : decode cX7_toSix 215 = .ok (.aload_n 0, 1) := by decide +kernel
theorem dX7_toSix_216 : decode cX7_toSix 216 = .ok (.getfield 58, 3) := by decide +kernel
theorem dX7_toSix_219 : decode cX7_toSix 219 = .ok (.iconst 0, 1) := by decide +kernel
theorem dX7_toSix_220 : decode cX7_toSix 220 = .ok (.aload_n 0, 1) := by decide +kernel
theorem dX7_toSix_221 : decode cX7_toSix 221 = .ok (.getfield 269, 3) := by decide +kernel
theorem dX7_toSix_224 : decode cX7_toSix 224 = .ok (.bipush 24, 2) := by decide +kernel
theorem dX7_toSix_226 : decode cX7_toSix 226 = .ok (.ishl, 1) := by decide +kernel
theorem dX7_toSix_227 : decode cX7_toSix 227 = .ok (.aload_n 0, 1) := by decide +kernel
theorem dX7_toSix_228 : decode cX7_toSix 228 = .ok (.getfield 272, 3) := by decide +kernel
theorem dX7_toSix_231 : decode cX7_toSix 231 = .ok (.bipush 16, 2) := by decide +kernel
theorem dX7_toSix_233 : decode cX7_toSix 233 = .ok (.ishl, 1) := by decide +kernel
theorem dX7_toSix_234 : decode cX7_toSix 234 = .ok (.ior, 1) := by decide +kernel
theorem dX7_toSix_235 : decode cX7_toSix 235 = .ok (.invokestatic 125, 3) := by decide +kernel
theorem dX7_toSix_238 : decode cX7_toSix 238 = .ok (.aload_n 0, 1) := by decide +kernel
theorem dX7_toSix_239 : decode cX7_toSix 239 = .ok (.getfield 58, 3) := by decide +kernel
theorem dX7_toSix_242 : decode cX7_toSix 242 = .ok (.iconst 4, 1) := by decide +kernel
theorem dX7_toSix_243 : decode cX7_toSix 243 = .ok (.aload_n 0, 1) := by decide +kernel
theorem dX7_toSix_244 : decode cX7_toSix 244 = .ok (.getfield 275, 3) := by decide +kernel
theorem dX7_toSix_247 : decode cX7_toSix 247 = .ok (.invokestatic 125, 3) := by decide +kernel
theorem dX7_toSix_250 : decode cX7_toSix 250 = .ok (.aload_n 0, 1) := by decide +kernel
theorem dX7_toSix_251 : decode cX7_toSix 251 = .ok (.lconst 0, 1) := by decide +kernel
theorem dX7_toSix_252 : decode cX7_toSix 252 = .ok (.putfield 102, 3) := by decide +kernel
theorem dX7_toSix_255 : decode cX7_toSix 255 = .ok (.aload_n 0, 1) := by decide +kernel
theorem dX7_toSix_256 : decode cX7_toSix 256 = .ok (.aload_n 0, 1) := by decide +kernel
theorem dX7_toSix_257 : decode cX7_toSix 257 = .ok (.getfield 134, 3) := by decide +kernel
theorem dX7_toSix_260 : decode cX7_toSix 260 = .ok (.bipush 58, 2) := by decide +kernel
theorem dX7_toSix_262 : decode cX7_toSix 262 = .ok (.iconst 0, 1) := by decide +kernel
theorem dX7_toSix_263 : decode cX7_toSix 263 = .ok (.invokevirtual 181, 3) := by decide +kernel
theorem dX7_toSix_266 : decode cX7_toSix 266 = .ok (.aload_n 0, 1) := by decide +kernel
theorem dX7_toSix_267 : decode cX7_toSix 267 = .ok (.aload_n 0, 1) := by decide +kernel
theorem dX7_toSix_268 : decode cX7_toSix 268 = .ok (.getfield 58, 3) := by decide +kernel
theorem dX7_toSix_271 : decode cX7_toSix 271 = .ok (.iconst 0, 1) := by decide +kernel
theorem dX7_toSix_272 : decode cX7_toSix 272 = .ok (.aload_n 0, 1) := by decide +kernel
theorem dX7_toSix_273 : decode cX7_toSix 273 = .ok (.getfield 134, 3) := by decide +kernel
theorem dX7_toSix_276 : decode cX7_toSix 276 = .ok (.invokevirtual 206, 3) := by decide +kernel
theorem dX7_toSix_279 : decode cX7_toSix 279 = .ok (.aload_n 0, 1) := by decide +kernel
theorem dX7_toSix_280 : decode cX7_toSix 280 = .ok (.getfield 58, 3) := by decide +kernel
theorem dX7_toSix_283 : decode cX7_toSix 283 = .ok (.iconst 2, 1) := by decide +kernel
theorem dX7_toSix_284 : decode cX7_toSix 284 = .ok (.aload_n 0, 1) := by decide +kernel
theorem dX7_toSix_285 : decode cX7_toSix 285 = .ok (.invokevirtual 177, 3) := by decide +kernel
theorem dX7_toSix_288 : decode cX7_toSix 288 = .ok (.invokestatic 121, 3) := by decide +kernel
theorem dX7_toSix_291 : decode cX7_toSix 291 = .ok (.iconst 0, 1) := by decide +kernel
theorem dX7_toSix_292 : decode cX7_toSix 292 = .ok (.ireturn, 1) := by decide +kernel
theorem dX7_errorToSix_0 : decode cX7_errorToSix 0 = .ok (.iload_n 1, 1) := by decide +kernel
theorem dX7_errorToSix_1 : decode cX7_errorToSix 1 = .ok (.bipush 11, 2) := by decide +kernel
theorem dX7_errorToSix_3 : decode cX7_errorToSix 3 = .ok (.if_icmp .ne 12, 3) := by decide +kernel
theorem dX7_errorToSix_6 : decode cX7_errorToSix 6 = .ok (.aload_n 0, 1) := by decide +kernel
theorem dX7_errorToSix_7 : decode cX7_errorToSix 7 = .ok (.iconst 3, 1) := by decide +kernel
theorem dX7_errorToSix_8 : decode cX7_errorToSix 8 = .ok (.iload_n 2, 1) := by decide +kernel
theorem dX7_errorToSix_9 : decode cX7_errorToSix 9 = .ok (.iconst 0, 1) := by decide +kernel
theorem dX7_errorToSix_10 : decode cX7_errorToSix 10 = .ok (.invokevirtual 288, 3) := by decide +kernel
theorem dX7_errorToSix_13 : decode cX7_errorToSix 13 = .ok (.iconst 1, 1) := by decide +kernel
theorem dX7_errorToSix_14 : decode cX7_errorToSix 14 = .ok (.ireturn, 1) := by decide +kernel
theorem dX7_errorToSix_15 : decode cX7_errorToSix 15 = .ok (.iload_n 1, 1) := by decide +kernel
theorem dX7_errorToSix_16 : decode cX7_errorToSix 16 = .ok (.bipush 12, 2) := by decide +kernel
theorem dX7_errorToSix_18 : decode cX7_errorToSix 18 = .ok (.if_icmp .ne 127, 3) := by decide +kernel
theorem dX7_errorToSix_21 : decode cX7_errorToSix 21 = .ok (.aload_n 0, 1) := by decide +kernel
theorem dX7_errorToSix_22 : decode cX7_errorToSix 22 = .ok (.getfield 58, 3) := by decide +kernel
theorem dX7_errorToSix_25 : decode cX7_errorToSix 25 = .ok (.iconst 4, 1) := by decide +kernel
theorem dX7_errorToSix_26 : decode cX7_errorToSix 26 = .ok (.invokestatic 111, 3) := by decide +kernel
theorem dX7_errorToSix_29 : decode cX7_errorToSix 29 = .ok (.istore 4, 2) := by decide +kernel
theorem dX7_errorToSix_31 : decode cX7_errorToSix 31 = .ok (.iload 4, 2) := by decide +kernel
theorem dX7_errorToSix_33 : decode cX7_errorToSix 33 = .ok (.iconst 2, 1) := by decide +kernel
theorem dX7_errorToSix_34 : decode cX7_errorToSix 34 = .ok (.if_icmp .ge 8, 3) := by decide +kernel
theorem dX7_errorToSix_37 : decode cX7_errorToSix 37 = .ok (.iload 4, 2) := by decide +kernel
theorem dX7_errorToSix_39 : decode cX7_errorToSix 39 = .ok (.goto 76, 3) := by decide +kernel
theorem dX7_errorToSix_42 : decode cX7_errorToSix 42 = .ok (.iload 4, 2) := by decide +kernel
theorem dX7_errorToSix_44 : decode cX7_errorToSix 44 = .ok (.iconst 4, 1) := by decide +kernel
theorem dX7_errorToSix_45 : decode cX7_errorToSix 45 = .ok (.if_icmp .ge 7, 3) := by decide +kernel
theorem dX7_errorToSix_48 : decode cX7_errorToSix 48 = .ok (.iconst 4, 1) := by decide +kernel
theorem dX7_errorToSix_49 : decode cX7_errorToSix 49 = .ok (.goto 66, 3) := by decide +kernel
theorem dX7_errorToSix_52 : decode cX7_errorToSix 52 = .ok (.iload 4, 2) := by decide +kernel
theorem dX7_errorToSix_54 : decode cX7_errorToSix 54 = .ok (.bipush 8, 2) := by decide +kernel
theorem dX7_errorToSix_56 : decode cX7_errorToSix 56 = .ok (.if_icmp .ne 8, 3) := by decide +kernel
theorem dX7_errorToSix_59 : decode cX7_errorToSix 59 = .ok (.bipush 7, 2) := by decide +kernel
theorem dX7_errorToSix_61 : decode cX7_errorToSix 61 = .ok (.goto 54, 3) := by decide +kernel
theorem dX7_errorToSix_64 : decode cX7_errorToSix 64 = .ok (.iload 4, 2) := by decide +kernel
theorem dX7_errorToSix_66 : decode cX7_errorToSix 66 = .ok (.bipush 9, 2) := by decide +kernel
theorem dX7_errorToSix_68 : decode cX7_errorToSix 68 = .ok (.if_icmp .ne 8, 3) := by decide +kernel
theorem dX7_errorToSix_71 : decode cX7_errorToSix 71 = .ok (.bipush 6, 2) := by decide +kernel
theorem dX7_errorToSix_73 : decode cX7_errorToSix 73 = .ok (.goto 42, 3) := by decide +kernel
theorem dX7_errorToSix_76 : decode cX7_errorToSix 76 = .ok (.iload 4, 2) := by decide +kernel
theorem dX7_errorToSix_78 : decode cX7_errorToSix 78 = .ok (.bipush 12, 2) := by decide +kernel
theorem dX7_errorToSix_80 : decode cX7_errorToSix 80 = .ok (.if_icmp .lt 15, 3) := by decide +kernel
theorem dX7_errorToSix_83 : decode cX7_errorToSix 83 = .ok (.iload 4, 2) := by decide +kernel
theorem dX7_errorToSix_85 : decode cX7_errorToSix 85 = .ok (.bipush 16, 2) := by decide +kernel
theorem dX7_errorToSix_87 : decode cX7_errorToSix 87 = .ok (.if_icmp .ge 8, 3) := by decide +kernel
theorem dX7_errorToSix_90 : decode cX7_errorToSix 90 = .ok (.bipush 8, 2) := by decide +kernel
theorem dX7_errorToSix_92 : decode cX7_errorToSix 92 = .ok (.goto 23, 3) := by decide +kernel
theorem dX7_errorToSix_95 : decode cX7_errorToSix 95 = .ok (.iload 4, 2) := by decide +kernel
theorem dX7_errorToSix_97 : decode cX7_errorToSix 97 = .ok (.bipush 16, 2) := by decide +kernel
theorem dX7_errorToSix_99 : decode cX7_errorToSix 99 = .ok (.if_icmp .lt 15, 3) := by decide +kernel
theorem dX7_errorToSix_102 : decode cX7_errorToSix 102 = .ok (.iload 4, 2) := by decide +kernel
theorem dX7_errorToSix_104 : decode cX7_errorToSix 104 = .ok (.bipush 20, 2) := by decide +kernel
theorem dX7_errorToSix_106 : decode cX7_errorToSix 106 = .ok (.if_icmp .ge 8, 3) := by decide +kernel
theorem dX7_errorToSix_109 : decode cX7_errorToSix 109 = .ok (.bipush 24, 2) := by decide +kernel
theorem dX7_errorToSix_111 : decode cX7_errorToSix 111 = .ok (.goto 4, 3) := by decide +kernel
theorem dX7_errorToSix_114 : decode cX7_errorToSix 114 = .ok (.iconst (-1), 1) := by decide +kernel
theorem dX7_errorToSix_115 : decode cX7_errorToSix 115 = .ok (.istore 5, 2) := by decide +kernel
theorem dX7_errorToSix_117 : decode cX7_errorToSix 117 = .ok (.aload_n 0, 1) := by decide +kernel
theorem dX7_errorToSix_118 : decode cX7_errorToSix 118 = .ok (.iconst 4, 1) := by decide +kernel
theorem dX7_errorToSix_119 : decode cX7_errorToSix 119 = .ok (.iconst 0, 1) := by decide +kernel
theorem dX7_errorToSix_120 : decode cX7_errorToSix 120 = .ok (.iload 5, 2) := by decide +kernel
theorem dX7_errorToSix_122 : decode cX7_errorToSix 122 = .ok (.invokevirtual 288, 3) := by decide +kernel
theorem dX7_errorToSix_125 : decode cX7_errorToSix 125 = .ok (.iload_n 2, 1) := by decide +kernel
theorem dX7_errorToSix_126 : decode cX7_errorToSix 126 = .ok (.ifCond .eq 8, 3) := by decide +kernel
theorem dX7_errorToSix_129 : decode cX7_errorToSix 129 = .ok (.iload_n 2, 1) := by decide +kernel
theorem dX7_errorToSix_130 : decode cX7_errorToSix 130 = .ok (.iconst 2, 1) := by decide +kernel
theorem dX7_errorToSix_131 : decode cX7_errorToSix 131 = .ok (.if_icmp .ne 12, 3) := by decide +kernel
theorem dX7_errorToSix_134 : decode cX7_errorToSix 134 = .ok (.iload 5, 2) := by decide +kernel
theorem dX7_errorToSix_136 : decode cX7_errorToSix 136 = .ok (.ifCond .lt 7, 3) := by decide +kernel
theorem dX7_errorToSix_139 : decode cX7_errorToSix 139 = .ok (.iconst 1, 1) := by decide +kernel
theorem dX7_errorToSix_140 : decode cX7_errorToSix 140 = .ok (.goto 4, 3) := by decide +kernel
theorem dX7_errorToSix_143 : decode cX7_errorToSix 143 = .ok (.iconst 0, 1) := by decide +kernel
theorem dX7_errorToSix_144 : decode cX7_errorToSix 144 = .ok (.ireturn, 1) := by decide +kernel
theorem dX7_errorToSix_145 : decode cX7_errorToSix 145 = .ok (.iload_n 2, 1) := by decide +kernel
theorem dX7_errorToSix_146 : decode cX7_errorToSix 146 = .ok (.tableswitch 229 0 15 #[78, 78, 87, 97, 115, 78, 78, 78, 78, 106, 106, 78, 78, 106, 229, 106], 78) := by decide +kernel
theorem dX7_errorToSix_224 : decode cX7_errorToSix 224 = .ok (.aload_n 0, 1) := by decide +kernel
theorem dX7_errorToSix_225 : decode cX7_errorToSix 225 = .ok (.iconst 1, 1) := by decide +kernel
theorem dX7_errorToSix_226 : decode cX7_errorToSix 226 = .ok (.iconst 0, 1) := by decide +kernel
theorem dX7_errorToSix_227 : decode cX7_errorToSix 227 = .ok (.iconst 0, 1) := by decide +kernel
theorem dX7_errorToSix_228 : decode cX7_errorToSix 228 = .ok (.invokevirtual 288, 3) := by decide +kernel
theorem dX7_errorToSix_231 : decode cX7_errorToSix 231 = .ok (.iconst 1, 1) := by decide +kernel
theorem dX7_errorToSix_232 : decode cX7_errorToSix 232 = .ok (.ireturn, 1) := by decide +kernel
theorem dX7_errorToSix_233 : decode cX7_errorToSix 233 = .ok (.aload_n 0, 1) := by decide +kernel
theorem dX7_errorToSix_234 : decode cX7_errorToSix 234 = .ok (.iconst 4, 1) := by decide +kernel
theorem dX7_errorToSix_235 : decode cX7_errorToSix 235 = .ok (.iconst 1, 1) := by decide +kernel
theorem dX7_errorToSix_236 : decode cX7_errorToSix 236 = .ok (.bipush 6, 2) := by decide +kernel
theorem dX7_errorToSix_238 : decode cX7_errorToSix 238 = .ok (.invokevirtual 288, 3) := by decide +kernel
theorem dX7_errorToSix_241 : decode cX7_errorToSix 241 = .ok (.iconst 1, 1) := by decide +kernel
theorem dX7_errorToSix_242 : decode cX7_errorToSix 242 = .ok (.ireturn, 1) := by decide +kernel
theorem dX7_errorToSix_243 : decode cX7_errorToSix 243 = .ok (.aload_n 0, 1) := by decide +kernel
theorem dX7_errorToSix_244 : decode cX7_errorToSix 244 = .ok (.iconst 1, 1) := by decide +kernel
theorem dX7_errorToSix_245 : decode cX7_errorToSix 245 = .ok (.iconst 4, 1) := by decide +kernel
theorem dX7_errorToSix_246 : decode cX7_errorToSix 246 = .ok (.iconst 0, 1) := by decide +kernel
theorem dX7_errorToSix_247 : decode cX7_errorToSix 247 = .ok (.invokevirtual 288, 3) := by decide +kernel
theorem dX7_errorToSix_250 : decode cX7_errorToSix 250 = .ok (.iconst 1, 1) := by decide +kernel
theorem dX7_errorToSix_251 : decode cX7_errorToSix 251 = .ok (.ireturn, 1) := by decide +kernel
theorem dX7_errorToSix_252 : decode cX7_errorToSix 252 = .ok (.aload_n 0, 1) := by decide +kernel
theorem dX7_errorToSix_253 : decode cX7_errorToSix 253 = .ok (.iconst 1, 1) := by decide +kernel
theorem dX7_errorToSix_254 : decode cX7_errorToSix 254 = .ok (.iconst 1, 1) := by decide +kernel
theorem dX7_errorToSix_255 : decode cX7_errorToSix 255 = .ok (.iconst 0, 1) := by decide +kernel
theorem dX7_errorToSix_256 : decode cX7_errorToSix 256 = .ok (.invokevirtual 288, 3) := by decide +kernel
theorem dX7_errorToSix_259 : decode cX7_errorToSix 259 = .ok (.iconst 1, 1) := by decide +kernel
theorem dX7_errorToSix_260 : decode cX7_errorToSix 260 = .ok (.ireturn, 1) := by decide +kernel
theorem dX7_errorToSix_261 : decode cX7_errorToSix 261 = .ok (.aload_n 0, 1) := by decide +kernel
theorem dX7_errorToSix_262 : decode cX7_errorToSix 262 = .ok (.getfield 58, 3) := by decide +kernel
theorem dX7_errorToSix_265 : decode cX7_errorToSix 265 = .ok (.bipush 6, 2) := by decide +kernel
theorem dX7_errorToSix_267 : decode cX7_errorToSix 267 = .ok (.invokestatic 115, 3) := by decide +kernel
theorem dX7_errorToSix_270 : decode cX7_errorToSix 270 = .ok (.istore 4, 2) := by decide +kernel
theorem dX7_errorToSix_272 : decode cX7_errorToSix 272 = .ok (.iload 4, 2) := by decide +kernel
theorem dX7_errorToSix_274 : decode cX7_errorToSix 274 = .ok (.ifCond .ne 28, 3) := by decide +kernel
theorem dX7_errorToSix_277 : decode cX7_errorToSix 277 = .ok (.iload_n 3, 1) := by decide +kernel
theorem dX7_errorToSix_278 : decode cX7_errorToSix 278 = .ok (.bipush 12, 2) := by decide +kernel
theorem dX7_errorToSix_280 : decode cX7_errorToSix 280 = .ok (.if_icmp .ge 8, 3) := by decide +kernel
theorem dX7_errorToSix_283 : decode cX7_errorToSix 283 = .ok (.bipush 68, 2) := by decide +kernel
theorem dX7_errorToSix_285 : decode cX7_errorToSix 285 = .ok (.goto 15, 3) := by decide +kernel
theorem dX7_errorToSix_288 : decode cX7_errorToSix 288 = .ok (.aload_n 0, 1) := by decide +kernel
theorem dX7_errorToSix_289 : decode cX7_errorToSix 289 = .ok (.getfield 58, 3) := by decide +kernel
theorem dX7_errorToSix_292 : decode cX7_errorToSix 292 = .ok (.bipush 10, 2) := by decide +kernel
theorem dX7_errorToSix_294 : decode cX7_errorToSix 294 = .ok (.invokestatic 115, 3) := by decide +kernel
theorem dX7_errorToSix_297 : decode cX7_errorToSix 297 = .ok (.invokestatic 292, 3) := by decide +kernel
theorem dX7_errorToSix_300 : decode cX7_errorToSix 300 = .ok (.istore 4, 2) := by decide +kernel
theorem dX7_errorToSix_302 : decode cX7_errorToSix 302 = .ok (.iinc 4 20, 3) := by decide +kernel
theorem dX7_errorToSix_305 : decode cX7_errorToSix 305 = .ok (.iload 4, 2) := by decide +kernel
theorem dX7_errorToSix_307 : decode cX7_errorToSix 307 = .ok (.aload_n 0, 1) := by decide +kernel
theorem dX7_errorToSix_308 : decode cX7_errorToSix 308 = .ok (.getfield 38, 3) := by decide +kernel
theorem dX7_errorToSix_311 : decode cX7_errorToSix 311 = .ok (.if_icmp .ge 8, 3) := by decide +kernel
theorem dX7_errorToSix_314 : decode cX7_errorToSix 314 = .ok (.iload 4, 2) := by decide +kernel
theorem dX7_errorToSix_316 : decode cX7_errorToSix 316 = .ok (.goto 7, 3) := by decide +kernel
theorem dX7_errorToSix_319 : decode cX7_errorToSix 319 = .ok (.aload_n 0, 1) := by decide +kernel
theorem dX7_errorToSix_320 : decode cX7_errorToSix 320 = .ok (.getfield 38, 3) := by decide +kernel
theorem dX7_errorToSix_323 : decode cX7_errorToSix 323 = .ok (.istore 4, 2) := by decide +kernel
theorem dX7_errorToSix_325 : decode cX7_errorToSix 325 = .ok (.iload 4, 2) := by decide +kernel
theorem dX7_errorToSix_327 : decode cX7_errorToSix 327 = .ok (.aload_n 0, 1) := by decide +kernel
theorem dX7_errorToSix_328 : decode cX7_errorToSix 328 = .ok (.getfield 35, 3) := by decide +kernel
theorem dX7_errorToSix_331 : decode cX7_errorToSix 331 = .ok (.bipush 20, 2) := by decide +kernel
theorem dX7_errorToSix_333 : decode cX7_errorToSix 333 = .ok (.iadd, 1) := by decide +kernel
theorem dX7_errorToSix_334 : decode cX7_errorToSix 334 = .ok (.if_icmp .ge 8, 3) := by decide +kernel
theorem dX7_errorToSix_337 : decode cX7_errorToSix 337 = .ok (.iload 4, 2) := by decide +kernel
theorem dX7_errorToSix_339 : decode cX7_errorToSix 339 = .ok (.goto 10, 3) := by decide +kernel
theorem dX7_errorToSix_342 : decode cX7_errorToSix 342 = .ok (.aload_n 0, 1) := by decide +kernel
theorem dX7_errorToSix_343 : decode cX7_errorToSix 343 = .ok (.getfield 35, 3) := by decide +kernel
theorem dX7_errorToSix_346 : decode cX7_errorToSix 346 = .ok (.bipush 20, 2) := by decide +kernel
theorem dX7_errorToSix_348 : decode cX7_errorToSix 348 = .ok (.iadd, 1) := by decide +kernel
theorem dX7_errorToSix_349 : decode cX7_errorToSix 349 = .ok (.istore 4, 2) := by decide +kernel
theorem dX7_errorToSix_351 : decode cX7_errorToSix 351 = .ok (.aload_n 0, 1) := by decide +kernel
theorem dX7_errorToSix_352 : decode cX7_errorToSix 352 = .ok (.iconst 2, 1) := by decide +kernel
theorem dX7_errorToSix_353 : decode cX7_errorToSix 353 = .ok (.iconst 0, 1) := by decide +kernel
theorem dX7_errorToSix_354 : decode cX7_errorToSix 354 = .ok (.iload 4, 2) := by decide +kernel
theorem dX7_errorToSix_356 : decode cX7_errorToSix 356 = .ok (.sipush 1280, 3) := by decide +kernel
theorem dX7_errorToSix_359 : decode cX7_errorToSix 359 = .ok (.if_icmp .ge 9, 3) := by decide +kernel
theorem dX7_errorToSix_362 : decode cX7_errorToSix 362 = .ok (.sipush 1280, 3) := by decide +kernel
theorem dX7_errorToSix_365 : decode cX7_errorToSix 365 = .ok (.goto 5, 3) := by decide +kernel
theorem dX7_errorToSix_368 : decode cX7_errorToSix 368 = .ok (.iload 4, 2) := by decide +kernel
theorem dX7_errorToSix_370 : decode cX7_errorToSix 370 = .ok (.invokevirtual 288, 3) := by decide +kernel
theorem dX7_errorToSix_373 : decode cX7_errorToSix 373 = .ok (.iconst 1, 1) := by decide +kernel
theorem dX7_errorToSix_374 : decode cX7_errorToSix 374 = .ok (.ireturn, 1) := by decide +kernel
theorem dX7_errorToSix_375 : decode cX7_errorToSix 375 = .ok (.iconst 0, 1) := by decide +kernel
theorem dX7_errorToSix_376 : decode cX7_errorToSix 376 = .ok (.ireturn, 1) := by decide +kernel
theorem dX7_plateau_0 : decode cX7_plateau 0 = .ok (.bipush 11, 2) := by decide +kernel
theorem dX7_plateau_2 : decode cX7_plateau 2 = .ok (.newarray .int, 2) := by decide +kernel
theorem dX7_plateau_4 : decode cX7_plateau 4 = .ok (.dup, 1) := by decide +kernel
theorem dX7_plateau_5 : decode cX7_plateau 5 = .ok (.iconst 0, 1) := by decide +kernel
theorem dX7_plateau_6 : decode cX7_plateau 6 = .ok (.ldc 107, 2) := by decide +kernel
theorem dX7_plateau_8 : decode cX7_plateau 8 = .ok (.iastore, 1) := by decide +kernel
theorem dX7_plateau_9 : decode cX7_plateau 9 = .ok (.dup, 1) := by decide +kernel
theorem dX7_plateau_10 : decode cX7_plateau 10 = .ok (.iconst 1, 1) := by decide +kernel
theorem dX7_plateau_11 : decode cX7_plateau 11 = .ok (.sipush 32000, 3) := by decide +kernel
theorem dX7_plateau_14 : decode cX7_plateau 14 = .ok (.iastore, 1) := by decide +kernel
theorem dX7_plateau_15 : decode cX7_plateau 15 = .ok (.dup, 1) := by decide +kernel
theorem dX7_plateau_16 : decode cX7_plateau 16 = .ok (.iconst 2, 1) := by decide +kernel
theorem dX7_plateau_17 : decode cX7_plateau 17 = .ok (.sipush 17914, 3) := by decide +kernel
theorem dX7_plateau_20 : decode cX7_plateau 20 = .ok (.iastore, 1) := by decide +kernel
theorem dX7_plateau_21 : decode cX7_plateau 21 = .ok (.dup, 1) := by decide +kernel
theorem dX7_plateau_22 : decode cX7_plateau 22 = .ok (.iconst 3, 1) := by decide +kernel
theorem dX7_plateau_23 : decode cX7_plateau 23 = .ok (.sipush 8166, 3) := by decide +kernel
theorem dX7_plateau_26 : decode cX7_plateau 26 = .ok (.iastore, 1) := by decide +kernel
theorem dX7_plateau_27 : decode cX7_plateau 27 = .ok (.dup, 1) := by decide +kernel
theorem dX7_plateau_28 : decode cX7_plateau 28 = .ok (.iconst 4, 1) := by decide +kernel
theorem dX7_plateau_29 : decode cX7_plateau 29 = .ok (.sipush 4352, 3) := by decide +kernel
theorem dX7_plateau_32 : decode cX7_plateau 32 = .ok (.iastore, 1) := by decide +kernel
theorem dX7_plateau_33 : decode cX7_plateau 33 = .ok (.dup, 1) := by decide +kernel
theorem dX7_plateau_34 : decode cX7_plateau 34 = .ok (.iconst 5, 1) := by decide +kernel
theorem dX7_plateau_35 : decode cX7_plateau 35 = .ok (.sipush 2002, 3) := by decide +kernel
theorem dX7_plateau_38 : decode cX7_plateau 38 = .ok (.iastore, 1) := by decide +kernel
theorem dX7_plateau_39 : decode cX7_plateau 39 = .ok (.dup, 1) := by decide +kernel
theorem dX7_plateau_40 : decode cX7_plateau 40 = .ok (.bipush 6, 2) := by decide +kernel
theorem dX7_plateau_42 : decode cX7_plateau 42 = .ok (.sipush 1492, 3) := by decide +kernel
theorem dX7_plateau_45 : decode cX7_plateau 45 = .ok (.iastore, 1) := by decide +kernel
theorem dX7_plateau_46 : decode cX7_plateau 46 = .ok (.dup, 1) := by decide +kernel
theorem dX7_plateau_47 : decode cX7_plateau 47 = .ok (.bipush 7, 2) := by decide +kernel
theorem dX7_plateau_49 : decode cX7_plateau 49 = .ok (.sipush 1006, 3) := by decide +kernel
theorem dX7_plateau_52 : decode cX7_plateau 52 = .ok (.iastore, 1) := by decide +kernel
theorem dX7_plateau_53 : decode cX7_plateau 53 = .ok (.dup, 1) := by decide +kernel
theorem dX7_plateau_54 : decode cX7_plateau 54 = .ok (.bipush 8, 2) := by decide +kernel
theorem dX7_plateau_56 : decode cX7_plateau 56 = .ok (.sipush 508, 3) := by decide +kernel
theorem dX7_plateau_59 : decode cX7_plateau 59 = .ok (.iastore, 1) := by decide +kernel
theorem dX7_plateau_60 : decode cX7_plateau 60 = .ok (.dup, 1) := by decide +kernel
theorem dX7_plateau_61 : decode cX7_plateau 61 = .ok (.bipush 9, 2) := by decide +kernel
theorem dX7_plateau_63 : decode cX7_plateau 63 = .ok (.sipush 296, 3) := by decide +kernel
theorem dX7_plateau_66 : decode cX7_plateau 66 = .ok (.iastore, 1) := by decide +kernel
theorem dX7_plateau_67 : decode cX7_plateau 67 = .ok (.dup, 1) := by decide +kernel
theorem dX7_plateau_68 : decode cX7_plateau 68 = .ok (.bipush 10, 2) := by decide +kernel
theorem dX7_plateau_70 : decode cX7_plateau 70 = .ok (.bipush 68, 2) := by decide +kernel
theorem dX7_plateau_72 : decode cX7_plateau 72 = .ok (.iastore, 1) := by decide +kernel
theorem dX7_plateau_73 : decode cX7_plateau 73 = .ok (.astore_n 1, 1) := by decide +kernel
theorem dX7_plateau_74 : decode cX7_plateau 74 = .ok (.iconst 0, 1) := by decide +kernel
theorem dX7_plateau_75 : decode cX7_plateau 75 = .ok (.istore_n 2, 1) := by decide +kernel
theorem dX7_plateau_76 : decode cX7_plateau 76 = .ok (.iload_n 2, 1) := by decide +kernel
theorem dX7_plateau_77 : decode cX7_plateau 77 = .ok (.bipush 11, 2) := by decide +kernel
theorem dX7_plateau_79 : decode cX7_plateau 79 = .ok (.if_icmp .ge 20, 3) := by decide +kernel
theorem dX7_plateau_82 : decode cX7_plateau 82 = .ok (.aload_n 1, 1) := by decide +kernel
theorem dX7_plateau_83 : decode cX7_plateau 83 = .ok (.iload_n 2, 1) := by decide +kernel
theorem dX7_plateau_84 : decode cX7_plateau 84 = .ok (.iaload, 1) := by decide +kernel
theorem dX7_plateau_85 : decode cX7_plateau 85 = .ok (.iload_n 0, 1) := by decide +kernel
theorem dX7_plateau_86 : decode cX7_plateau 86 = .ok (.if_icmp .ge 7, 3) := by decide +kernel
theorem dX7_plateau_89 : decode cX7_plateau 89 = .ok (.aload_n 1, 1) := by decide +kernel
theorem dX7_plateau_90 : decode cX7_plateau 90 = .ok (.iload_n 2, 1) := by decide +kernel
theorem dX7_plateau_91 : decode cX7_plateau 91 = .ok (.iaload, 1) := by decide +kernel
theorem dX7_plateau_92 : decode cX7_plateau 92 = .ok (.ireturn, 1) := by decide +kernel
theorem dX7_plateau_93 : decode cX7_plateau 93 = .ok (.iinc 2 1, 3) := by decide +kernel
theorem dX7_plateau_96 : decode cX7_plateau 96 = .ok (.goto (-20), 3) := by decide +kernel
theorem dX7_plateau_99 : decode cX7_plateau 99 = .ok (.bipush 68, 2) := by decide +kernel
theorem dX7_plateau_101 : decode cX7_plateau 101 = .ok (.ireturn, 1) := by decide +kernel
theorem dX7_innerToSix_0 : decode cX7_innerToSix 0 = .ok (.iload_n 2, 1) := by decide +kernel
theorem dX7_innerToSix_1 : decode cX7_innerToSix 1 = .ok (.bipush 20, 2) := by decide +kernel
theorem dX7_innerToSix_3 : decode cX7_innerToSix 3 = .ok (.if_icmp .lt 17, 3) := by decide +kernel
theorem dX7_innerToSix_6 : decode cX7_innerToSix 6 = .ok (.aload_n 0, 1) := by decide +kernel
theorem dX7_innerToSix_7 : decode cX7_innerToSix 7 = .ok (.getfield 7, 3) := by decide +kernel
theorem dX7_innerToSix_10 : decode cX7_innerToSix 10 = .ok (.iload_n 1, 1) := by decide +kernel
theorem dX7_innerToSix_11 : decode cX7_innerToSix 11 = .ok (.invokestatic 111, 3) := by decide +kernel
theorem dX7_innerToSix_14 : decode cX7_innerToSix 14 = .ok (.iconst 4, 1) := by decide +kernel
theorem dX7_innerToSix_15 : decode cX7_innerToSix 15 = .ok (.ishr, 1) := by decide +kernel
theorem dX7_innerToSix_16 : decode cX7_innerToSix 16 = .ok (.iconst 4, 1) := by decide +kernel
theorem dX7_innerToSix_17 : decode cX7_innerToSix 17 = .ok (.if_icmp .eq 5, 3) := by decide +kernel
theorem dX7_innerToSix_20 : decode cX7_innerToSix 20 = .ok (.iconst 0, 1) := by decide +kernel
theorem dX7_innerToSix_21 : decode cX7_innerToSix 21 = .ok (.ireturn, 1) := by decide +kernel
theorem dX7_innerToSix_22 : decode cX7_innerToSix 22 = .ok (.aload_n 0, 1) := by decide +kernel
theorem dX7_innerToSix_23 : decode cX7_innerToSix 23 = .ok (.iload_n 1, 1) := by decide +kernel
theorem dX7_innerToSix_24 : decode cX7_innerToSix 24 = .ok (.invokevirtual 203, 3) := by decide +kernel
theorem dX7_innerToSix_27 : decode cX7_innerToSix 27 = .ok (.aload_n 0, 1) := by decide +kernel
theorem dX7_innerToSix_28 : decode cX7_innerToSix 28 = .ok (.getfield 185, 3) := by decide +kernel
theorem dX7_innerToSix_31 : decode cX7_innerToSix 31 = .ok (.bipush 20, 2) := by decide +kernel
theorem dX7_innerToSix_33 : decode cX7_innerToSix 33 = .ok (.if_icmp .lt 61, 3) := by decide +kernel
theorem dX7_innerToSix_36 : decode cX7_innerToSix 36 = .ok (.iload_n 2, 1) := by decide +kernel
theorem dX7_innerToSix_37 : decode cX7_innerToSix 37 = .ok (.aload_n 0, 1) := by decide +kernel
theorem dX7_innerToSix_38 : decode cX7_innerToSix 38 = .ok (.getfield 185, 3) := by decide +kernel
theorem dX7_innerToSix_41 : decode cX7_innerToSix 41 = .ok (.if_icmp .lt 53, 3) := by decide +kernel
theorem dX7_innerToSix_44 : decode cX7_innerToSix 44 = .ok (.aload_n 0, 1) := by decide +kernel
theorem dX7_innerToSix_45 : decode cX7_innerToSix 45 = .ok (.getfield 188, 3) := by decide +kernel
theorem dX7_innerToSix_48 : decode cX7_innerToSix 48 = .ok (.aload_n 0, 1) := by decide +kernel
theorem dX7_innerToSix_49 : decode cX7_innerToSix 49 = .ok (.getfield 185, 3) := by decide +kernel
theorem dX7_innerToSix_52 : decode cX7_innerToSix 52 = .ok (.if_icmp .lt 42, 3) := by decide +kernel
theorem dX7_innerToSix_55 : decode cX7_innerToSix 55 = .ok (.aload_n 0, 1) := by decide +kernel
theorem dX7_innerToSix_56 : decode cX7_innerToSix 56 = .ok (.aload_n 0, 1) := by decide +kernel
theorem dX7_innerToSix_57 : decode cX7_innerToSix 57 = .ok (.getfield 7, 3) := by decide +kernel
theorem dX7_innerToSix_60 : decode cX7_innerToSix 60 = .ok (.iload_n 1, 1) := by decide +kernel
theorem dX7_innerToSix_61 : decode cX7_innerToSix 61 = .ok (.bipush 12, 2) := by decide +kernel
theorem dX7_innerToSix_63 : decode cX7_innerToSix 63 = .ok (.iadd, 1) := by decide +kernel
theorem dX7_innerToSix_64 : decode cX7_innerToSix 64 = .ok (.invokestatic 118, 3) := by decide +kernel
theorem dX7_innerToSix_67 : decode cX7_innerToSix 67 = .ok (.aload_n 0, 1) := by decide +kernel
theorem dX7_innerToSix_68 : decode cX7_innerToSix 68 = .ok (.getfield 7, 3) := by decide +kernel
theorem dX7_innerToSix_71 : decode cX7_innerToSix 71 = .ok (.iload_n 1, 1) := by decide +kernel
theorem dX7_innerToSix_72 : decode cX7_innerToSix 72 = .ok (.bipush 16, 2) := by decide +kernel
theorem dX7_innerToSix_74 : decode cX7_innerToSix 74 = .ok (.iadd, 1) := by decide +kernel
theorem dX7_innerToSix_75 : decode cX7_innerToSix 75 = .ok (.invokestatic 118, 3) := by decide +kernel
theorem dX7_innerToSix_78 : decode cX7_innerToSix 78 = .ok (.invokevirtual 232, 3) := by decide +kernel
theorem dX7_innerToSix_81 : decode cX7_innerToSix 81 = .ok (.ifCond .eq 13, 3) := by decide +kernel
theorem dX7_innerToSix_84 : decode cX7_innerToSix 84 = .ok (.aload_n 0, 1) := by decide +kernel
theorem dX7_innerToSix_85 : decode cX7_innerToSix 85 = .ok (.getfield 197, 3) := by decide +kernel
theorem dX7_innerToSix_88 : decode cX7_innerToSix 88 = .ok (.invokestatic 240, 3) := by decide +kernel
theorem dX7_innerToSix_91 : decode cX7_innerToSix 91 = .ok (.ifCond .eq 5, 3) := by decide +kernel
theorem dX7_innerToSix_94 : decode cX7_innerToSix 94 = .ok (.iconst 0, 1) := by decide +kernel
theorem dX7_innerToSix_95 : decode cX7_innerToSix 95 = .ok (.ireturn, 1) := by decide +kernel
theorem dX7_innerToSix_96 : decode cX7_innerToSix 96 = .ok (.iload_n 2, 1) := by decide +kernel
theorem dX7_innerToSix_97 : decode cX7_innerToSix 97 = .ok (.aload_n 0, 1) := by decide +kernel
theorem dX7_innerToSix_98 : decode cX7_innerToSix 98 = .ok (.getfield 188, 3) := by decide +kernel
theorem dX7_innerToSix_101 : decode cX7_innerToSix 101 = .ok (.if_icmp .ge 7, 3) := by decide +kernel
theorem dX7_innerToSix_104 : decode cX7_innerToSix 104 = .ok (.iload_n 2, 1) := by decide +kernel
theorem dX7_innerToSix_105 : decode cX7_innerToSix 105 = .ok (.goto 7, 3) := by decide +kernel
theorem dX7_innerToSix_108 : decode cX7_innerToSix 108 = .ok (.aload_n 0, 1) := by decide +kernel
theorem dX7_innerToSix_109 : decode cX7_innerToSix 109 = .ok (.getfield 188, 3) := by decide +kernel
theorem dX7_innerToSix_112 : decode cX7_innerToSix 112 = .ok (.aload_n 0, 1) := by decide +kernel
theorem dX7_innerToSix_113 : decode cX7_innerToSix 113 = .ok (.getfield 185, 3) := by decide +kernel
theorem dX7_innerToSix_116 : decode cX7_innerToSix 116 = .ok (.isub, 1) := by decide +kernel
theorem dX7_innerToSix_117 : decode cX7_innerToSix 117 = .ok (.istore_n 3, 1) := by decide +kernel
theorem dX7_innerToSix_118 : decode cX7_innerToSix 118 = .ok (.aload_n 0, 1) := by decide +kernel
theorem dX7_innerToSix_119 : decode cX7_innerToSix 119 = .ok (.getfield 194, 3) := by decide +kernel
theorem dX7_innerToSix_122 : decode cX7_innerToSix 122 = .ok (.ifCond .ne 10, 3) := by decide +kernel
theorem dX7_innerToSix_125 : decode cX7_innerToSix 125 = .ok (.aload_n 0, 1) := by decide +kernel
theorem dX7_innerToSix_126 : decode cX7_innerToSix 126 = .ok (.getfield 191, 3) := by decide +kernel
theorem dX7_innerToSix_129 : decode cX7_innerToSix 129 = .ok (.ifCond .le 7, 3) := by decide +kernel
theorem dX7_innerToSix_132 : decode cX7_innerToSix 132 = .ok (.iconst 1, 1) := by decide +kernel
theorem dX7_innerToSix_133 : decode cX7_innerToSix 133 = .ok (.goto 4, 3) := by decide +kernel
theorem dX7_innerToSix_136 : decode cX7_innerToSix 136 = .ok (.iconst 0, 1) := by decide +kernel
theorem dX7_innerToSix_137 : decode cX7_innerToSix 137 = .ok (.istore 4, 2) := by decide +kernel
theorem dX7_innerToSix_139 : decode cX7_innerToSix 139 = .ok (.aload_n 0, 1) := by decide +kernel
theorem dX7_innerToSix_140 : decode cX7_innerToSix 140 = .ok (.getfield 197, 3) := by decide +kernel
theorem dX7_innerToSix_143 : decode cX7_innerToSix 143 = .ok (.iconst 1, 1) := by decide +kernel
theorem dX7_innerToSix_144 : decode cX7_innerToSix 144 = .ok (.if_icmp .ne 45, 3) := by decide +kernel
theorem dX7_innerToSix_147 : decode cX7_innerToSix 147 = .ok (.iload 4, 2) := by decide +kernel
theorem dX7_innerToSix_149 : decode cX7_innerToSix 149 = .ok (.ifCond .ne 38, 3) := by decide +kernel
theorem dX7_innerToSix_152 : decode cX7_innerToSix 152 = .ok (.iload_n 3, 1) := by decide +kernel
theorem dX7_innerToSix_153 : decode cX7_innerToSix 153 = .ok (.iconst 4, 1) := by decide +kernel
theorem dX7_innerToSix_154 : decode cX7_innerToSix 154 = .ok (.if_icmp .lt 33, 3) := by decide +kernel
theorem dX7_innerToSix_157 : decode cX7_innerToSix 157 = .ok (.aload_n 0, 1) := by decide +kernel
theorem dX7_innerToSix_158 : decode cX7_innerToSix 158 = .ok (.getfield 7, 3) := by decide +kernel
theorem dX7_innerToSix_161 : decode cX7_innerToSix 161 = .ok (.iload_n 1, 1) := by decide +kernel
theorem dX7_innerToSix_162 : decode cX7_innerToSix 162 = .ok (.aload_n 0, 1) := by decide +kernel
theorem dX7_innerToSix_163 : decode cX7_innerToSix 163 = .ok (.getfield 185, 3) := by decide +kernel
theorem dX7_innerToSix_166 : decode cX7_innerToSix 166 = .ok (.iadd, 1) := by decide +kernel
theorem dX7_innerToSix_167 : decode cX7_innerToSix 167 = .ok (.baload, 1) := by decide +kernel
theorem dX7_innerToSix_168 : decode cX7_innerToSix 168 = .ok (.bipush 8, 2) := by decide +kernel
theorem dX7_innerToSix_170 : decode cX7_innerToSix 170 = .ok (.if_icmp .eq 19, 3) := by decide +kernel
theorem dX7_innerToSix_173 : decode cX7_innerToSix 173 = .ok (.aload_n 0, 1) := by decide +kernel
theorem dX7_innerToSix_174 : decode cX7_innerToSix 174 = .ok (.getfield 7, 3) := by decide +kernel
theorem dX7_innerToSix_177 : decode cX7_innerToSix 177 = .ok (.iload_n 1, 1) := by decide +kernel
theorem dX7_innerToSix_178 : decode cX7_innerToSix 178 = .ok (.aload_n 0, 1) := by decide +kernel
theorem dX7_innerToSix_179 : decode cX7_innerToSix 179 = .ok (.getfield 185, 3) := by decide +kernel
theorem dX7_innerToSix_182 : decode cX7_innerToSix 182 = .ok (.iadd, 1) := by decide +kernel
theorem dX7_innerToSix_183 : decode cX7_innerToSix 183 = .ok (.baload, 1) := by decide +kernel
theorem dX7_innerToSix_184 : decode cX7_innerToSix 184 = .ok (.ifCond .eq 5, 3) := by decide +kernel
theorem dX7_innerToSix_187 : decode cX7_innerToSix 187 = .ok (.iconst 0, 1) := by decide +kernel
theorem dX7_innerToSix_188 : decode cX7_innerToSix 188 = .ok (.ireturn, 1) := by decide +kernel
theorem dX7_innerToSix_189 : decode cX7_innerToSix 189 = .ok (.iload 4, 2) := by decide +kernel
theorem dX7_innerToSix_191 : decode cX7_innerToSix 191 = .ok (.ifCond .eq 8, 3) := by decide +kernel
theorem dX7_innerToSix_194 : decode cX7_innerToSix 194 = .ok (.bipush 48, 2) := by decide +kernel
theorem dX7_innerToSix_196 : decode cX7_innerToSix 196 = .ok (.goto 5, 3) := by decide +kernel
theorem dX7_innerToSix_199 : decode cX7_innerToSix 199 = .ok (.bipush 40, 2) := by decide +kernel
theorem dX7_innerToSix_201 : decode cX7_innerToSix 201 = .ok (.istore 5, 2) := by decide +kernel
theorem dX7_innerToSix_203 : decode cX7_innerToSix 203 = .ok (.aload_n 0, 1) := by decide +kernel
theorem dX7_innerToSix_204 : decode cX7_innerToSix 204 = .ok (.getfield 128, 3) := by decide +kernel
theorem dX7_innerToSix_207 : decode cX7_innerToSix 207 = .ok (.istore 6, 2) := by decide +kernel
theorem dX7_innerToSix_209 : decode cX7_innerToSix 209 = .ok (.aload_n 0, 1) := by decide +kernel
theorem dX7_innerToSix_210 : decode cX7_innerToSix 210 = .ok (.iload 5, 2) := by decide +kernel
theorem dX7_innerToSix_212 : decode cX7_innerToSix 212 = .ok (.invokevirtual 217, 3) := by decide +kernel
theorem dX7_innerToSix_215 : decode cX7_innerToSix 215 = .ok (.istore 7, 2) := by decide +kernel
theorem dX7_innerToSix_217 : decode cX7_innerToSix 217 = .ok (.aload_n 0, 1) := by decide +kernel
theorem dX7_innerToSix_218 : decode cX7_innerToSix 218 = .ok (.iload 7, 2) := by decide +kernel
theorem dX7_innerToSix_220 : decode cX7_innerToSix 220 = .ok (.aload_n 0, 1) := by decide +kernel
theorem dX7_innerToSix_221 : decode cX7_innerToSix 221 = .ok (.getfield 7, 3) := by decide +kernel
theorem dX7_innerToSix_224 : decode cX7_innerToSix 224 = .ok (.iload_n 1, 1) := by decide +kernel
theorem dX7_innerToSix_225 : decode cX7_innerToSix 225 = .ok (.iconst 1, 1) := by decide +kernel
theorem dX7_innerToSix_226 : decode cX7_innerToSix 226 = .ok (.iadd, 1) := by decide +kernel
theorem dX7_innerToSix_227 : decode cX7_innerToSix 227 = .ok (.invokestatic 111, 3) := by decide +kernel
theorem dX7_innerToSix_230 : decode cX7_innerToSix 230 = .ok (.iload 5, 2) := by decide +kernel
theorem dX7_innerToSix_232 : decode cX7_innerToSix 232 = .ok (.bipush 40, 2) := by decide +kernel
theorem dX7_innerToSix_234 : decode cX7_innerToSix 234 = .ok (.isub, 1) := by decide +kernel
theorem dX7_innerToSix_235 : decode cX7_innerToSix 235 = .ok (.aload_n 0, 1) := by decide +kernel
theorem dX7_innerToSix_236 : decode cX7_innerToSix 236 = .ok (.getfield 188, 3) := by decide +kernel
theorem dX7_innerToSix_239 : decode cX7_innerToSix 239 = .ok (.iadd, 1) := by decide +kernel
theorem dX7_innerToSix_240 : decode cX7_innerToSix 240 = .ok (.aload_n 0, 1) := by decide +kernel
theorem dX7_innerToSix_241 : decode cX7_innerToSix 241 = .ok (.getfield 185, 3) := by decide +kernel
theorem dX7_innerToSix_244 : decode cX7_innerToSix 244 = .ok (.isub, 1) := by decide +kernel
theorem dX7_innerToSix_245 : decode cX7_innerToSix 245 = .ok (.aload_n 0, 1) := by decide +kernel
theorem dX7_innerToSix_246 : decode cX7_innerToSix 246 = .ok (.getfield 7, 3) := by decide +kernel
theorem dX7_innerToSix_249 : decode cX7_innerToSix 249 = .ok (.iload_n 1, 1) := by decide +kernel
theorem dX7_innerToSix_250 : decode cX7_innerToSix 250 = .ok (.bipush 8, 2) := by decide +kernel
theorem dX7_innerToSix_252 : decode cX7_innerToSix 252 = .ok (.iadd, 1) := by decide +kernel
theorem dX7_innerToSix_253 : decode cX7_innerToSix 253 = .ok (.invokestatic 111, 3) := by decide +kernel
theorem dX7_innerToSix_256 : decode cX7_innerToSix 256 = .ok (.iload 4, 2) := by decide +kernel
theorem dX7_innerToSix_258 : decode cX7_innerToSix 258 = .ok (.aload_n 0, 1) := by decide +kernel
theorem dX7_innerToSix_259 : decode cX7_innerToSix 259 = .ok (.getfield 191, 3) := by decide +kernel
theorem dX7_innerToSix_262 : decode cX7_innerToSix 262 = .ok (.aload_n 0, 1) := by decide +kernel
theorem dX7_innerToSix_263 : decode cX7_innerToSix 263 = .ok (.getfield 194, 3) := by decide +kernel
theorem dX7_innerToSix_266 : decode cX7_innerToSix 266 = .ok (.aload_n 0, 1) := by decide +kernel
theorem dX7_innerToSix_267 : decode cX7_innerToSix 267 = .ok (.getfield 7, 3) := by decide +kernel
theorem dX7_innerToSix_270 : decode cX7_innerToSix 270 = .ok (.iload_n 1, 1) := by decide +kernel
theorem dX7_innerToSix_271 : decode cX7_innerToSix 271 = .ok (.iconst 4, 1) := by decide +kernel
theorem dX7_innerToSix_272 : decode cX7_innerToSix 272 = .ok (.iadd, 1) := by decide +kernel
theorem dX7_innerToSix_273 : decode cX7_innerToSix 273 = .ok (.invokestatic 115, 3) := by decide +kernel
theorem dX7_innerToSix_276 : decode cX7_innerToSix 276 = .ok (.invokevirtual 260, 3) := by decide +kernel
theorem dX7_innerToSix_279 : decode cX7_innerToSix 279 = .ok (.iconst 0, 1) := by decide +kernel
theorem dX7_innerToSix_280 : decode cX7_innerToSix 280 = .ok (.istore 8, 2) := by decide +kernel
theorem dX7_innerToSix_282 : decode cX7_innerToSix 282 = .ok (.iload 8, 2) := by decide +kernel
theorem dX7_innerToSix_284 : decode cX7_innerToSix 284 = .ok (.iload 5, 2) := by decide +kernel
theorem dX7_innerToSix_286 : decode cX7_innerToSix 286 = .ok (.if_icmp .ge 29, 3) := by decide +kernel
theorem dX7_innerToSix_289 : decode cX7_innerToSix 289 = .ok (.aload_n 0, 1) := by decide +kernel
theorem dX7_innerToSix_290 : decode cX7_innerToSix 290 = .ok (.getfield 58, 3) := by decide +kernel
theorem dX7_innerToSix_293 : decode cX7_innerToSix 293 = .ok (.bipush 8, 2) := by decide +kernel
theorem dX7_innerToSix_295 : decode cX7_innerToSix 295 = .ok (.iload 8, 2) := by decide +kernel
theorem dX7_innerToSix_297 : decode cX7_innerToSix 297 = .ok (.iadd, 1) := by decide +kernel
theorem dX7_innerToSix_298 : decode cX7_innerToSix 298 = .ok (.aload_n 0, 1) := by decide +kernel
theorem dX7_innerToSix_299 : decode cX7_innerToSix 299 = .ok (.getfield 52, 3) := by decide +kernel
theorem dX7_innerToSix_302 : decode cX7_innerToSix 302 = .ok (.iload 7, 2) := by decide +kernel
theorem dX7_innerToSix_304 : decode cX7_innerToSix 304 = .ok (.iload 8, 2) := by decide +kernel
theorem dX7_innerToSix_306 : decode cX7_innerToSix 306 = .ok (.iadd, 1) := by decide +kernel
theorem dX7_innerToSix_307 : decode cX7_innerToSix 307 = .ok (.baload, 1) := by decide +kernel
theorem dX7_innerToSix_308 : decode cX7_innerToSix 308 = .ok (.bastore, 1) := by decide +kernel
theorem dX7_innerToSix_309 : decode cX7_innerToSix 309 = .ok (.iinc 8 1, 3) := by decide +kernel
theorem dX7_innerToSix_312 : decode cX7_innerToSix 312 = .ok (.goto (-30), 3) := by decide +kernel
theorem dX7_innerToSix_315 : decode cX7_innerToSix 315 = .ok (.aload_n 0, 1) := by decide +kernel
theorem dX7_innerToSix_316 : decode cX7_innerToSix 316 = .ok (.iload 6, 2) := by decide +kernel
theorem dX7_innerToSix_318 : decode cX7_innerToSix 318 = .ok (.putfield 128, 3) := by decide +kernel
theorem dX7_innerToSix_321 : decode cX7_innerToSix 321 = .ok (.iconst 0, 1) := by decide +kernel
theorem dX7_innerToSix_322 : decode cX7_innerToSix 322 = .ok (.istore 8, 2) := by decide +kernel
theorem dX7_innerToSix_324 : decode cX7_innerToSix 324 = .ok (.iload 8, 2) := by decide +kernel
theorem dX7_innerToSix_326 : decode cX7_innerToSix 326 = .ok (.iload_n 3, 1) := by decide +kernel
theorem dX7_innerToSix_327 : decode cX7_innerToSix 327 = .ok (.if_icmp .ge 36, 3) := by decide +kernel
theorem dX7_innerToSix_330 : decode cX7_innerToSix 330 = .ok (.aload_n 0, 1) := by decide +kernel
theorem dX7_innerToSix_331 : decode cX7_innerToSix 331 = .ok (.getfield 58, 3) := by decide +kernel
theorem dX7_innerToSix_334 : decode cX7_innerToSix 334 = .ok (.bipush 8, 2) := by decide +kernel
theorem dX7_innerToSix_336 : decode cX7_innerToSix 336 = .ok (.iload 5, 2) := by decide +kernel
theorem dX7_innerToSix_338 : decode cX7_innerToSix 338 = .ok (.iadd, 1) := by decide +kernel
theorem dX7_innerToSix_339 : decode cX7_innerToSix 339 = .ok (.iload 8, 2) := by decide +kernel
theorem dX7_innerToSix_341 : decode cX7_innerToSix 341 = .ok (.iadd, 1) := by decide +kernel
theorem dX7_innerToSix_342 : decode cX7_innerToSix 342 = .ok (.aload_n 0, 1) := by decide +kernel
theorem dX7_innerToSix_343 : decode cX7_innerToSix 343 = .ok (.getfield 7, 3) := by decide +kernel
theorem dX7_innerToSix_346 : decode cX7_innerToSix 346 = .ok (.iload_n 1, 1) := by decide +kernel
theorem dX7_innerToSix_347 : decode cX7_innerToSix 347 = .ok (.aload_n 0, 1) := by decide +kernel
theorem dX7_innerToSix_348 : decode cX7_innerToSix 348 = .ok (.getfield 185, 3) := by decide +kernel
theorem dX7_innerToSix_351 : decode cX7_innerToSix 351 = .ok (.iadd, 1) := by decide +kernel
theorem dX7_innerToSix_352 : decode cX7_innerToSix 352 = .ok (.iload 8, 2) := by decide +kernel
theorem dX7_innerToSix_354 : decode cX7_innerToSix 354 = .ok (.iadd, 1) := by decide +kernel
theorem dX7_innerToSix_355 : decode cX7_innerToSix 355 = .ok (.baload, 1) := by decide +kernel
theorem dX7_innerToSix_356 : decode cX7_innerToSix 356 = .ok (.bastore, 1) := by decide +kernel
theorem dX7_innerToSix_357 : decode cX7_innerToSix 357 = .ok (.iinc 8 1, 3) := by decide +kernel
theorem dX7_innerToSix_360 : decode cX7_innerToSix 360 = .ok (.goto (-36), 3) := by decide +kernel
theorem dX7_innerToSix_363 : decode cX7_innerToSix 363 = .ok (.aload_n 0, 1) := by decide +kernel
theorem dX7_innerToSix_364 : decode cX7_innerToSix 364 = .ok (.bipush 8, 2) := by decide +kernel
theorem dX7_innerToSix_366 : decode cX7_innerToSix 366 = .ok (.iload 5, 2) := by decide +kernel
theorem dX7_innerToSix_368 : decode cX7_innerToSix 368 = .ok (.iadd, 1) := by decide +kernel
theorem dX7_innerToSix_369 : decode cX7_innerToSix 369 = .ok (.iload_n 3, 1) := by decide +kernel
theorem dX7_innerToSix_370 : decode cX7_innerToSix 370 = .ok (.iadd, 1) := by decide +kernel
theorem dX7_innerToSix_371 : decode cX7_innerToSix 371 = .ok (.putfield 134, 3) := by decide +kernel
theorem dX7_innerToSix_374 : decode cX7_innerToSix 374 = .ok (.aload_n 0, 1) := by decide +kernel
theorem dX7_innerToSix_375 : decode cX7_innerToSix 375 = .ok (.bipush 8, 2) := by decide +kernel
theorem dX7_innerToSix_377 : decode cX7_innerToSix 377 = .ok (.iload 5, 2) := by decide +kernel
theorem dX7_innerToSix_379 : decode cX7_innerToSix 379 = .ok (.iadd, 1) := by decide +kernel
theorem dX7_innerToSix_380 : decode cX7_innerToSix 380 = .ok (.iload_n 3, 1) := by decide +kernel
theorem dX7_innerToSix_381 : decode cX7_innerToSix 381 = .ok (.aload_n 0, 1) := by decide +kernel
theorem dX7_innerToSix_382 : decode cX7_innerToSix 382 = .ok (.getfield 188, 3) := by decide +kernel
theorem dX7_innerToSix_385 : decode cX7_innerToSix 385 = .ok (.aload_n 0, 1) := by decide +kernel
theorem dX7_innerToSix_386 : decode cX7_innerToSix 386 = .ok (.getfield 185, 3) := by decide +kernel
theorem dX7_innerToSix_389 : decode cX7_innerToSix 389 = .ok (.isub, 1) := by decide +kernel
theorem dX7_innerToSix_390 : decode cX7_innerToSix 390 = .ok (.aload_n 0, 1) := by decide +kernel
theorem dX7_innerToSix_391 : decode cX7_innerToSix 391 = .ok (.getfield 191, 3) := by decide +kernel
theorem dX7_innerToSix_394 : decode cX7_innerToSix 394 = .ok (.iconst 1, 1) := by decide +kernel
theorem dX7_innerToSix_395 : decode cX7_innerToSix 395 = .ok (.invokevirtual 295, 3) := by decide +kernel
theorem dX7_innerToSix_398 : decode cX7_innerToSix 398 = .ok (.iconst 1, 1) := by decide +kernel
theorem dX7_innerToSix_399 : decode cX7_innerToSix 399 = .ok (.ireturn, 1) := by decide +kernel
theorem dX7_mendInner_0 : decode cX7_mendInner 0 = .ok (.iload 4, 2) := by decide +kernel
theorem dX7_mendInner_2 : decode cX7_mendInner 2 = .ok (.ifCond .le 4, 3) := by decide +kernel
theorem dX7_mendInner_5 : decode cX7_mendInner 5 = .ok (.return_, 1) := by decide +kernel
theorem dX7_mendInner_6 : decode cX7_mendInner 6 = .ok (.aload_n 0, 1) := by decide +kernel
theorem dX7_mendInner_7 : decode cX7_mendInner 7 = .ok (.getfield 197, 3) := by decide +kernel
theorem dX7_mendInner_10 : decode cX7_mendInner 10 = .ok (.iload 5, 2) := by decide +kernel
theorem dX7_mendInner_12 : decode cX7_mendInner 12 = .ok (.ifCond .eq 7, 3) := by decide +kernel
theorem dX7_mendInner_15 : decode cX7_mendInner 15 = .ok (.iconst 1, 1) := by decide +kernel
theorem dX7_mendInner_16 : decode cX7_mendInner 16 = .ok (.goto 5, 3) := by decide +kernel
theorem dX7_mendInner_19 : decode cX7_mendInner 19 = .ok (.bipush 58, 2) := by decide +kernel
theorem dX7_mendInner_21 : decode cX7_mendInner 21 = .ok (.if_icmp .ne 18, 3) := by decide +kernel
theorem dX7_mendInner_24 : decode cX7_mendInner 24 = .ok (.aload_n 0, 1) := by decide +kernel
theorem dX7_mendInner_25 : decode cX7_mendInner 25 = .ok (.aload_n 0, 1) := by decide +kernel
theorem dX7_mendInner_26 : decode cX7_mendInner 26 = .ok (.getfield 58, 3) := by decide +kernel
theorem dX7_mendInner_29 : decode cX7_mendInner 29 = .ok (.iload_n 1, 1) := by decide +kernel
theorem dX7_mendInner_30 : decode cX7_mendInner 30 = .ok (.iload_n 3, 1) := by decide +kernel
theorem dX7_mendInner_31 : decode cX7_mendInner 31 = .ok (.iload 5, 2) := by decide +kernel
theorem dX7_mendInner_33 : decode cX7_mendInner 33 = .ok (.invokevirtual 278, 3) := by decide +kernel
theorem dX7_mendInner_36 : decode cX7_mendInner 36 = .ok (.goto 79, 3) := by decide +kernel
theorem dX7_mendInner_39 : decode cX7_mendInner 39 = .ok (.aload_n 0, 1) := by decide +kernel
theorem dX7_mendInner_40 : decode cX7_mendInner 40 = .ok (.getfield 197, 3) := by decide +kernel
theorem dX7_mendInner_43 : decode cX7_mendInner 43 = .ok (.bipush 17, 2) := by decide +kernel
theorem dX7_mendInner_45 : decode cX7_mendInner 45 = .ok (.if_icmp .eq 12, 3) := by decide +kernel
theorem dX7_mendInner_48 : decode cX7_mendInner 48 = .ok (.aload_n 0, 1) := by decide +kernel
theorem dX7_mendInner_49 : decode cX7_mendInner 49 = .ok (.getfield 197, 3) := by decide +kernel
theorem dX7_mendInner_52 : decode cX7_mendInner 52 = .ok (.bipush 6, 2) := by decide +kernel
theorem dX7_mendInner_54 : decode cX7_mendInner 54 = .ok (.if_icmp .ne 61, 3) := by decide +kernel
theorem dX7_mendInner_57 : decode cX7_mendInner 57 = .ok (.aload_n 0, 1) := by decide +kernel
theorem dX7_mendInner_58 : decode cX7_mendInner 58 = .ok (.getfield 197, 3) := by decide +kernel
theorem dX7_mendInner_61 : decode cX7_mendInner 61 = .ok (.invokestatic 253, 3) := by decide +kernel
theorem dX7_mendInner_64 : decode cX7_mendInner 64 = .ok (.istore 6, 2) := by decide +kernel
theorem dX7_mendInner_66 : decode cX7_mendInner 66 = .ok (.iload_n 2, 1) := by decide +kernel
theorem dX7_mendInner_67 : decode cX7_mendInner 67 = .ok (.iload 6, 2) := by decide +kernel
theorem dX7_mendInner_69 : decode cX7_mendInner 69 = .ok (.iconst 2, 1) := by decide +kernel
theorem dX7_mendInner_70 : decode cX7_mendInner 70 = .ok (.iadd, 1) := by decide +kernel
theorem dX7_mendInner_71 : decode cX7_mendInner 71 = .ok (.if_icmp .lt 44, 3) := by decide +kernel
theorem dX7_mendInner_74 : decode cX7_mendInner 74 = .ok (.aload_n 0, 1) := by decide +kernel
theorem dX7_mendInner_75 : decode cX7_mendInner 75 = .ok (.getfield 197, 3) := by decide +kernel
theorem dX7_mendInner_78 : decode cX7_mendInner 78 = .ok (.bipush 17, 2) := by decide +kernel
theorem dX7_mendInner_80 : decode cX7_mendInner 80 = .ok (.if_icmp .ne 17, 3) := by decide +kernel
theorem dX7_mendInner_83 : decode cX7_mendInner 83 = .ok (.aload_n 0, 1) := by decide +kernel
theorem dX7_mendInner_84 : decode cX7_mendInner 84 = .ok (.getfield 58, 3) := by decide +kernel
theorem dX7_mendInner_87 : decode cX7_mendInner 87 = .ok (.iload_n 1, 1) := by decide +kernel
theorem dX7_mendInner_88 : decode cX7_mendInner 88 = .ok (.iload 6, 2) := by decide +kernel
theorem dX7_mendInner_90 : decode cX7_mendInner 90 = .ok (.iadd, 1) := by decide +kernel
theorem dX7_mendInner_91 : decode cX7_mendInner 91 = .ok (.invokestatic 115, 3) := by decide +kernel
theorem dX7_mendInner_94 : decode cX7_mendInner 94 = .ok (.ifCond .eq 21, 3) := by decide +kernel
theorem dX7_mendInner_97 : decode cX7_mendInner 97 = .ok (.aload_n 0, 1) := by decide +kernel
theorem dX7_mendInner_98 : decode cX7_mendInner 98 = .ok (.aload_n 0, 1) := by decide +kernel
theorem dX7_mendInner_99 : decode cX7_mendInner 99 = .ok (.getfield 58, 3) := by decide +kernel
theorem dX7_mendInner_102 : decode cX7_mendInner 102 = .ok (.iload_n 1, 1) := by decide +kernel
theorem dX7_mendInner_103 : decode cX7_mendInner 103 = .ok (.iload 6, 2) := by decide +kernel
theorem dX7_mendInner_105 : decode cX7_mendInner 105 = .ok (.iadd, 1) := by decide +kernel
theorem dX7_mendInner_106 : decode cX7_mendInner 106 = .ok (.aload_n 0, 1) := by decide +kernel
theorem dX7_mendInner_107 : decode cX7_mendInner 107 = .ok (.getfield 197, 3) := by decide +kernel
theorem dX7_mendInner_110 : decode cX7_mendInner 110 = .ok (.iload 5, 2) := by decide +kernel
theorem dX7_mendInner_112 : decode cX7_mendInner 112 = .ok (.invokevirtual 256, 3) := by decide +kernel
theorem dX7_mendInner_115 : decode cX7_mendInner 115 = .ok (.return_, 1) := by decide +kernel
theorem dX7_headers_0 : decode cX7_headers 0 = .ok (.aload_n 0, 1) := by decide +kernel
theorem dX7_headers_1 : decode cX7_headers 1 = .ok (.getfield 7, 3) := by decide +kernel
theorem dX7_headers_4 : decode cX7_headers 4 = .ok (.iload_n 1, 1) := by decide +kernel
theorem dX7_headers_5 : decode cX7_headers 5 = .ok (.bipush 6, 2) := by decide +kernel
theorem dX7_headers_7 : decode cX7_headers 7 = .ok (.iadd, 1) := by decide +kernel
theorem dX7_headers_8 : decode cX7_headers 8 = .ok (.invokestatic 111, 3) := by decide +kernel
theorem dX7_headers_11 : decode cX7_headers 11 = .ok (.istore_n 3, 1) := by decide +kernel
theorem dX7_headers_12 : decode cX7_headers 12 = .ok (.iload_n 1, 1) := by decide +kernel
theorem dX7_headers_13 : decode cX7_headers 13 = .ok (.bipush 40, 2) := by decide +kernel
theorem dX7_headers_15 : decode cX7_headers 15 = .ok (.iadd, 1) := by decide +kernel
theorem dX7_headers_16 : decode cX7_headers 16 = .ok (.istore 4, 2) := by decide +kernel
theorem dX7_headers_18 : decode cX7_headers 18 = .ok (.aload_n 0, 1) := by decide +kernel
theorem dX7_headers_19 : decode cX7_headers 19 = .ok (.iconst (-1), 1) := by decide +kernel
theorem dX7_headers_20 : decode cX7_headers 20 = .ok (.putfield 299, 3) := by decide +kernel
theorem dX7_headers_23 : decode cX7_headers 23 = .ok (.aload_n 0, 1) := by decide +kernel
theorem dX7_headers_24 : decode cX7_headers 24 = .ok (.iconst (-1), 1) := by decide +kernel
theorem dX7_headers_25 : decode cX7_headers 25 = .ok (.putfield 302, 3) := by decide +kernel
theorem dX7_headers_28 : decode cX7_headers 28 = .ok (.aload_n 0, 1) := by decide +kernel
theorem dX7_headers_29 : decode cX7_headers 29 = .ok (.iconst 0, 1) := by decide +kernel
theorem dX7_headers_30 : decode cX7_headers 30 = .ok (.putfield 191, 3) := by decide +kernel
theorem dX7_headers_33 : decode cX7_headers 33 = .ok (.aload_n 0, 1) := by decide +kernel
theorem dX7_headers_34 : decode cX7_headers 34 = .ok (.iconst 0, 1) := by decide +kernel
theorem dX7_headers_35 : decode cX7_headers 35 = .ok (.putfield 194, 3) := by decide +kernel
theorem dX7_headers_38 : decode cX7_headers 38 = .ok (.aload_n 0, 1) := by decide +kernel
theorem dX7_headers_39 : decode cX7_headers 39 = .ok (.getfield 191, 3) := by decide +kernel
theorem dX7_headers_42 : decode cX7_headers 42 = .ok (.ifCond .ne 197, 3) := by decide +kernel
theorem dX7_headers_45 : decode cX7_headers 45 = .ok (.iload_n 3, 1) := by decide +kernel
theorem dX7_headers_46 : decode cX7_headers 46 = .ok (.ifCond .eq 21, 3) := by decide +kernel
theorem dX7_headers_49 : decode cX7_headers 49 = .ok (.iload_n 3, 1) := by decide +kernel
theorem dX7_headers_50 : decode cX7_headers 50 = .ok (.bipush 43, 2) := by decide +kernel
theorem dX7_headers_52 : decode cX7_headers 52 = .ok (.if_icmp .eq 15, 3) := by decide +kernel
theorem dX7_headers_55 : decode cX7_headers 55 = .ok (.iload_n 3, 1) := by decide +kernel
theorem dX7_headers_56 : decode cX7_headers 56 = .ok (.bipush 60, 2) := by decide +kernel
theorem dX7_headers_58 : decode cX7_headers 58 = .ok (.if_icmp .eq 9, 3) := by decide +kernel
theorem dX7_headers_61 : decode cX7_headers 61 = .ok (.iload_n 3, 1) := by decide +kernel
theorem dX7_headers_62 : decode cX7_headers 62 = .ok (.bipush 44, 2) := by decide +kernel
theorem dX7_headers_64 : decode cX7_headers 64 = .ok (.if_icmp .ne 175, 3) := by decide +kernel
theorem dX7_headers_67 : decode cX7_headers 67 = .ok (.iload 4, 2) := by decide +kernel
theorem dX7_headers_69 : decode cX7_headers 69 = .ok (.bipush 8, 2) := by decide +kernel
theorem dX7_headers_71 : decode cX7_headers 71 = .ok (.iadd, 1) := by decide +kernel
theorem dX7_headers_72 : decode cX7_headers 72 = .ok (.iload_n 2, 1) := by decide +kernel
theorem dX7_headers_73 : decode cX7_headers 73 = .ok (.if_icmp .le 5, 3) := by decide +kernel
theorem dX7_headers_76 : decode cX7_headers 76 = .ok (.iconst 0, 1) := by decide +kernel
theorem dX7_headers_77 : decode cX7_headers 77 = .ok (.ireturn, 1) := by decide +kernel
theorem dX7_headers_78 : decode cX7_headers 78 = .ok (.iload_n 3, 1) := by decide +kernel
theorem dX7_headers_79 : decode cX7_headers 79 = .ok (.bipush 44, 2) := by decide +kernel
theorem dX7_headers_81 : decode cX7_headers 81 = .ok (.if_icmp .ne 8, 3) := by decide +kernel
theorem dX7_headers_84 : decode cX7_headers 84 = .ok (.bipush 8, 2) := by decide +kernel
theorem dX7_headers_86 : decode cX7_headers 86 = .ok (.goto 20, 3) := by decide +kernel
theorem dX7_headers_89 : decode cX7_headers 89 = .ok (.bipush 8, 2) := by decide +kernel
theorem dX7_headers_91 : decode cX7_headers 91 = .ok (.bipush 8, 2) := by decide +kernel
theorem dX7_headers_93 : decode cX7_headers 93 = .ok (.aload_n 0, 1) := by decide +kernel
theorem dX7_headers_94 : decode cX7_headers 94 = .ok (.getfield 7, 3) := by decide +kernel
theorem dX7_headers_97 : decode cX7_headers 97 = .ok (.iload 4, 2) := by decide +kernel
theorem dX7_headers_99 : decode cX7_headers 99 = .ok (.iconst 1, 1) := by decide +kernel
theorem dX7_headers_100 : decode cX7_headers 100 = .ok (.iadd, 1) := by decide +kernel
theorem dX7_headers_101 : decode cX7_headers 101 = .ok (.invokestatic 111, 3) := by decide +kernel
theorem dX7_headers_104 : decode cX7_headers 104 = .ok (.imul, 1) := by decide +kernel
theorem dX7_headers_105 : decode cX7_headers 105 = .ok (.iadd, 1) := by decide +kernel
theorem dX7_headers_106 : decode cX7_headers 106 = .ok (.istore 5, 2) := by decide +kernel
theorem dX7_headers_108 : decode cX7_headers 108 = .ok (.iload 4, 2) := by decide +kernel
theorem dX7_headers_110 : decode cX7_headers 110 = .ok (.iload 5, 2) := by decide +kernel
theorem dX7_headers_112 : decode cX7_headers 112 = .ok (.iadd, 1) := by decide +kernel
theorem dX7_headers_113 : decode cX7_headers 113 = .ok (.iload_n 2, 1) := by decide +kernel
theorem dX7_headers_114 : decode cX7_headers 114 = .ok (.if_icmp .gt 16, 3) := by decide +kernel
theorem dX7_headers_117 : decode cX7_headers 117 = .ok (.iload_n 3, 1) := by decide +kernel
theorem dX7_headers_118 : decode cX7_headers 118 = .ok (.bipush 44, 2) := by decide +kernel
theorem dX7_headers_120 : decode cX7_headers 120 = .ok (.if_icmp .ne 12, 3) := by decide +kernel
theorem dX7_headers_123 : decode cX7_headers 123 = .ok (.aload_n 0, 1) := by decide +kernel
theorem dX7_headers_124 : decode cX7_headers 124 = .ok (.getfield 299, 3) := by decide +kernel
theorem dX7_headers_127 : decode cX7_headers 127 = .ok (.ifCond .lt 5, 3) := by decide +kernel
theorem dX7_headers_130 : decode cX7_headers 130 = .ok (.iconst 0, 1) := by decide +kernel
theorem dX7_headers_131 : decode cX7_headers 131 = .ok (.ireturn, 1) := by decide +kernel
theorem dX7_headers_132 : decode cX7_headers 132 = .ok (.iload_n 3, 1) := by decide +kernel
theorem dX7_headers_133 : decode cX7_headers 133 = .ok (.bipush 43, 2) := by decide +kernel
theorem dX7_headers_135 : decode cX7_headers 135 = .ok (.if_icmp .ne 30, 3) := by decide +kernel
theorem dX7_headers_138 : decode cX7_headers 138 = .ok (.aload_n 0, 1) := by decide +kernel
theorem dX7_headers_139 : decode cX7_headers 139 = .ok (.getfield 7, 3) := by decide +kernel
theorem dX7_headers_142 : decode cX7_headers 142 = .ok (.iload 4, 2) := by decide +kernel
theorem dX7_headers_144 : decode cX7_headers 144 = .ok (.iconst 3, 1) := by decide +kernel
theorem dX7_headers_145 : decode cX7_headers 145 = .ok (.iadd, 1) := by decide +kernel
theorem dX7_headers_146 : decode cX7_headers 146 = .ok (.baload, 1) := by decide +kernel
theorem dX7_headers_147 : decode cX7_headers 147 = .ok (.ifCond .eq 18, 3) := by decide +kernel
theorem dX7_headers_150 : decode cX7_headers 150 = .ok (.aload_n 0, 1) := by decide +kernel
theorem dX7_headers_151 : decode cX7_headers 151 = .ok (.getfield 302, 3) := by decide +kernel
theorem dX7_headers_154 : decode cX7_headers 154 = .ok (.ifCond .ge 11, 3) := by decide +kernel
theorem dX7_headers_157 : decode cX7_headers 157 = .ok (.aload_n 0, 1) := by decide +kernel
theorem dX7_headers_158 : decode cX7_headers 158 = .ok (.iload 4, 2) := by decide +kernel
theorem dX7_headers_160 : decode cX7_headers 160 = .ok (.iconst 3, 1) := by decide +kernel
theorem dX7_headers_161 : decode cX7_headers 161 = .ok (.iadd, 1) := by decide +kernel
theorem dX7_headers_162 : decode cX7_headers 162 = .ok (.putfield 302, 3) := by decide +kernel
theorem dX7_headers_165 : decode cX7_headers 165 = .ok (.iload_n 3, 1) := by decide +kernel
theorem dX7_headers_166 : decode cX7_headers 166 = .ok (.bipush 44, 2) := by decide +kernel
theorem dX7_headers_168 : decode cX7_headers 168 = .ok (.if_icmp .ne 51, 3) := by decide +kernel
theorem dX7_headers_171 : decode cX7_headers 171 = .ok (.aload_n 0, 1) := by decide +kernel
theorem dX7_headers_172 : decode cX7_headers 172 = .ok (.iload 4, 2) := by decide +kernel
theorem dX7_headers_174 : decode cX7_headers 174 = .ok (.putfield 299, 3) := by decide +kernel
theorem dX7_headers_177 : decode cX7_headers 177 = .ok (.aload_n 0, 1) := by decide +kernel
theorem dX7_headers_178 : decode cX7_headers 178 = .ok (.aload_n 0, 1) := by decide +kernel
theorem dX7_headers_179 : decode cX7_headers 179 = .ok (.getfield 7, 3) := by decide +kernel
theorem dX7_headers_182 : decode cX7_headers 182 = .ok (.iload 4, 2) := by decide +kernel
theorem dX7_headers_184 : decode cX7_headers 184 = .ok (.iconst 2, 1) := by decide +kernel
theorem dX7_headers_185 : decode cX7_headers 185 = .ok (.iadd, 1) := by decide +kernel
theorem dX7_headers_186 : decode cX7_headers 186 = .ok (.invokestatic 115, 3) := by decide +kernel
theorem dX7_headers_189 : decode cX7_headers 189 = .ok (.ldc_w 305, 3) := by decide +kernel
theorem dX7_headers_192 : decode cX7_headers 192 = .ok (.iand, 1) := by decide +kernel
theorem dX7_headers_193 : decode cX7_headers 193 = .ok (.putfield 191, 3) := by decide +kernel
theorem dX7_headers_196 : decode cX7_headers 196 = .ok (.aload_n 0, 1) := by decide +kernel
theorem dX7_headers_197 : decode cX7_headers 197 = .ok (.aload_n 0, 1) := by decide +kernel
theorem dX7_headers_198 : decode cX7_headers 198 = .ok (.getfield 7, 3) := by decide +kernel
theorem dX7_headers_201 : decode cX7_headers 201 = .ok (.iload 4, 2) := by decide +kernel
theorem dX7_headers_203 : decode cX7_headers 203 = .ok (.iconst 3, 1) := by decide +kernel
theorem dX7_headers_204 : decode cX7_headers 204 = .ok (.iadd, 1) := by decide +kernel
theorem dX7_headers_205 : decode cX7_headers 205 = .ok (.baload, 1) := by decide +kernel
theorem dX7_headers_206 : decode cX7_headers 206 = .ok (.iconst 1, 1) := by decide +kernel
theorem dX7_headers_207 : decode cX7_headers 207 = .ok (.iand, 1) := by decide +kernel
theorem dX7_headers_208 : decode cX7_headers 208 = .ok (.ifCond .eq 7, 3) := by decide +kernel
theorem dX7_headers_211 : decode cX7_headers 211 = .ok (.iconst 1, 1) := by decide +kernel
theorem dX7_headers_212 : decode cX7_headers 212 = .ok (.goto 4, 3) := by decide +kernel
theorem dX7_headers_215 : decode cX7_headers 215 = .ok (.iconst 0, 1) := by decide +kernel
theorem dX7_headers_216 : decode cX7_headers 216 = .ok (.putfield 194, 3) := by decide +kernel
theorem dX7_headers_219 : decode cX7_headers 219 = .ok (.aload_n 0, 1) := by decide +kernel
theorem dX7_headers_220 : decode cX7_headers 220 = .ok (.getfield 7, 3) := by decide +kernel
theorem dX7_headers_223 : decode cX7_headers 223 = .ok (.iload 4, 2) := by decide +kernel
theorem dX7_headers_225 : decode cX7_headers 225 = .ok (.invokestatic 111, 3) := by decide +kernel
theorem dX7_headers_228 : decode cX7_headers 228 = .ok (.istore_n 3, 1) := by decide +kernel
theorem dX7_headers_229 : decode cX7_headers 229 = .ok (.iload 4, 2) := by decide +kernel
theorem dX7_headers_231 : decode cX7_headers 231 = .ok (.iload 5, 2) := by decide +kernel
theorem dX7_headers_233 : decode cX7_headers 233 = .ok (.iadd, 1) := by decide +kernel
theorem dX7_headers_234 : decode cX7_headers 234 = .ok (.istore 4, 2) := by decide +kernel
theorem dX7_headers_236 : decode cX7_headers 236 = .ok (.goto (-198), 3) := by decide +kernel
theorem dX7_headers_239 : decode cX7_headers 239 = .ok (.aload_n 0, 1) := by decide +kernel
theorem dX7_headers_240 : decode cX7_headers 240 = .ok (.iload_n 3, 1) := by decide +kernel
theorem dX7_headers_241 : decode cX7_headers 241 = .ok (.putfield 197, 3) := by decide +kernel
theorem dX7_headers_244 : decode cX7_headers 244 = .ok (.aload_n 0, 1) := by decide +kernel
theorem dX7_headers_245 : decode cX7_headers 245 = .ok (.iload 4, 2) := by decide +kernel
theorem dX7_headers_247 : decode cX7_headers 247 = .ok (.putfield 306, 3) := by decide +kernel
theorem dX7_headers_250 : decode cX7_headers 250 = .ok (.iconst 1, 1) := by decide +kernel
theorem dX7_headers_251 : decode cX7_headers 251 = .ok (.ireturn, 1) := by decide +kernel
theorem dX7_isFormed6_0 : decode cX7_isFormed6 0 = .ok (.iload_n 1, 1) := by decide +kernel
theorem dX7_isFormed6_1 : decode cX7_isFormed6 1 = .ok (.bipush 40, 2) := by decide +kernel
theorem dX7_isFormed6_3 : decode cX7_isFormed6 3 = .ok (.if_icmp .lt 18, 3) := by decide +kernel
theorem dX7_isFormed6_6 : decode cX7_isFormed6 6 = .ok (.aload_n 0, 1) := by decide +kernel
theorem dX7_isFormed6_7 : decode cX7_isFormed6 7 = .ok (.getfield 7, 3) := by decide +kernel
theorem dX7_isFormed6_10 : decode cX7_isFormed6 10 = .ok (.iconst 0, 1) := by decide +kernel
theorem dX7_isFormed6_11 : decode cX7_isFormed6 11 = .ok (.invokestatic 111, 3) := by decide +kernel
theorem dX7_isFormed6_14 : decode cX7_isFormed6 14 = .ok (.iconst 4, 1) := by decide +kernel
theorem dX7_isFormed6_15 : decode cX7_isFormed6 15 = .ok (.ishr, 1) := by decide +kernel
theorem dX7_isFormed6_16 : decode cX7_isFormed6 16 = .ok (.bipush 6, 2) := by decide +kernel
theorem dX7_isFormed6_18 : decode cX7_isFormed6 18 = .ok (.if_icmp .eq 5, 3) := by decide +kernel
theorem dX7_isFormed6_21 : decode cX7_isFormed6 21 = .ok (.iconst 0, 1) := by decide +kernel
theorem dX7_isFormed6_22 : decode cX7_isFormed6 22 = .ok (.ireturn, 1) := by decide +kernel
theorem dX7_isFormed6_23 : decode cX7_isFormed6 23 = .ok (.aload_n 0, 1) := by decide +kernel
theorem dX7_isFormed6_24 : decode cX7_isFormed6 24 = .ok (.aload_n 0, 1) := by decide +kernel
theorem dX7_isFormed6_25 : decode cX7_isFormed6 25 = .ok (.getfield 7, 3) := by decide +kernel
theorem dX7_isFormed6_28 : decode cX7_isFormed6 28 = .ok (.iconst 4, 1) := by decide +kernel
theorem dX7_isFormed6_29 : decode cX7_isFormed6 29 = .ok (.invokestatic 115, 3) := by decide +kernel
theorem dX7_isFormed6_32 : decode cX7_isFormed6 32 = .ok (.putfield 309, 3) := by decide +kernel
theorem dX7_isFormed6_35 : decode cX7_isFormed6 35 = .ok (.aload_n 0, 1) := by decide +kernel
theorem dX7_isFormed6_36 : decode cX7_isFormed6 36 = .ok (.getfield 309, 3) := by decide +kernel
theorem dX7_isFormed6_39 : decode cX7_isFormed6 39 = .ok (.iload_n 1, 1) := by decide +kernel
theorem dX7_isFormed6_40 : decode cX7_isFormed6 40 = .ok (.bipush 40, 2) := by decide +kernel
theorem dX7_isFormed6_42 : decode cX7_isFormed6 42 = .ok (.isub, 1) := by decide +kernel
theorem dX7_isFormed6_43 : decode cX7_isFormed6 43 = .ok (.if_icmp .gt 18, 3) := by decide +kernel
theorem dX7_isFormed6_46 : decode cX7_isFormed6 46 = .ok (.aload_n 0, 1) := by decide +kernel
theorem dX7_isFormed6_47 : decode cX7_isFormed6 47 = .ok (.iconst 0, 1) := by decide +kernel
theorem dX7_isFormed6_48 : decode cX7_isFormed6 48 = .ok (.bipush 40, 2) := by decide +kernel
theorem dX7_isFormed6_50 : decode cX7_isFormed6 50 = .ok (.aload_n 0, 1) := by decide +kernel
theorem dX7_isFormed6_51 : decode cX7_isFormed6 51 = .ok (.getfield 309, 3) := by decide +kernel
theorem dX7_isFormed6_54 : decode cX7_isFormed6 54 = .ok (.iadd, 1) := by decide +kernel
theorem dX7_isFormed6_55 : decode cX7_isFormed6 55 = .ok (.invokevirtual 312, 3) := by decide +kernel
theorem dX7_isFormed6_58 : decode cX7_isFormed6 58 = .ok (.ifCond .ne 5, 3) := by decide +kernel
theorem dX7_isFormed6_61 : decode cX7_isFormed6 61 = .ok (.iconst 0, 1) := by decide +kernel
theorem dX7_isFormed6_62 : decode cX7_isFormed6 62 = .ok (.ireturn, 1) := by decide +kernel
theorem dX7_isFormed6_63 : decode cX7_isFormed6 63 = .ok (.bipush 40, 2) := by decide +kernel
theorem dX7_isFormed6_65 : decode cX7_isFormed6 65 = .ok (.aload_n 0, 1) := by decide +kernel
theorem dX7_isFormed6_66 : decode cX7_isFormed6 66 = .ok (.getfield 309, 3) := by decide +kernel
theorem dX7_isFormed6_69 : decode cX7_isFormed6 69 = .ok (.iadd, 1) := by decide +kernel
theorem dX7_isFormed6_70 : decode cX7_isFormed6 70 = .ok (.aload_n 0, 1) := by decide +kernel
theorem dX7_isFormed6_71 : decode cX7_isFormed6 71 = .ok (.getfield 306, 3) := by decide +kernel
theorem dX7_isFormed6_74 : decode cX7_isFormed6 74 = .ok (.isub, 1) := by decide +kernel
theorem dX7_isFormed6_75 : decode cX7_isFormed6 75 = .ok (.istore_n 2, 1) := by decide +kernel
theorem dX7_isFormed6_76 : decode cX7_isFormed6 76 = .ok (.aload_n 0, 1) := by decide +kernel
theorem dX7_isFormed6_77 : decode cX7_isFormed6 77 = .ok (.getfield 299, 3) := by decide +kernel
theorem dX7_isFormed6_80 : decode cX7_isFormed6 80 = .ok (.ifCond .lt 28, 3) := by decide +kernel
theorem dX7_isFormed6_83 : decode cX7_isFormed6 83 = .ok (.aload_n 0, 1) := by decide +kernel
theorem dX7_isFormed6_84 : decode cX7_isFormed6 84 = .ok (.getfield 194, 3) := by decide +kernel
theorem dX7_isFormed6_87 : decode cX7_isFormed6 87 = .ok (.ifCond .eq 10, 3) := by decide +kernel
theorem dX7_isFormed6_90 : decode cX7_isFormed6 90 = .ok (.iload_n 2, 1) := by decide +kernel
theorem dX7_isFormed6_91 : decode cX7_isFormed6 91 = .ok (.bipush 8, 2) := by decide +kernel
theorem dX7_isFormed6_93 : decode cX7_isFormed6 93 = .ok (.irem, 1) := by decide +kernel
theorem dX7_isFormed6_94 : decode cX7_isFormed6 94 = .ok (.ifCond .ne 18, 3) := by decide +kernel
theorem dX7_isFormed6_97 : decode cX7_isFormed6 97 = .ok (.aload_n 0, 1) := by decide +kernel
theorem dX7_isFormed6_98 : decode cX7_isFormed6 98 = .ok (.getfield 191, 3) := by decide +kernel
theorem dX7_isFormed6_101 : decode cX7_isFormed6 101 = .ok (.iload_n 2, 1) := by decide +kernel
theorem dX7_isFormed6_102 : decode cX7_isFormed6 102 = .ok (.iadd, 1) := by decide +kernel
theorem dX7_isFormed6_103 : decode cX7_isFormed6 103 = .ok (.ldc 107, 2) := by decide +kernel
theorem dX7_isFormed6_105 : decode cX7_isFormed6 105 = .ok (.if_icmp .gt 7, 3) := by decide +kernel
theorem dX7_isFormed6_108 : decode cX7_isFormed6 108 = .ok (.iconst 1, 1) := by decide +kernel
theorem dX7_isFormed6_109 : decode cX7_isFormed6 109 = .ok (.goto 4, 3) := by decide +kernel
theorem dX7_isFormed6_112 : decode cX7_isFormed6 112 = .ok (.iconst 0, 1) := by decide +kernel
theorem dX7_isFormed6_113 : decode cX7_isFormed6 113 = .ok (.ireturn, 1) := by decide +kernel
theorem dX7_answer6_0 : decode cX7_answer6 0 = .ok (.aload_n 0, 1) := by decide +kernel
theorem dX7_answer6_1 : decode cX7_answer6 1 = .ok (.getfield 191, 3) := by decide +kernel
theorem dX7_answer6_4 : decode cX7_answer6 4 = .ok (.ifCond .gt 60, 3) := by decide +kernel
theorem dX7_answer6_7 : decode cX7_answer6 7 = .ok (.aload_n 0, 1) := by decide +kernel
theorem dX7_answer6_8 : decode cX7_answer6 8 = .ok (.getfield 197, 3) := by decide +kernel
theorem dX7_answer6_11 : decode cX7_answer6 11 = .ok (.bipush 58, 2) := by decide +kernel
theorem dX7_answer6_13 : decode cX7_answer6 13 = .ok (.if_icmp .ne 55, 3) := by decide +kernel
theorem dX7_answer6_16 : decode cX7_answer6 16 = .ok (.aload_n 0, 1) := by decide +kernel
theorem dX7_answer6_17 : decode cX7_answer6 17 = .ok (.getfield 306, 3) := by decide +kernel
theorem dX7_answer6_20 : decode cX7_answer6 20 = .ok (.bipush 40, 2) := by decide +kernel
theorem dX7_answer6_22 : decode cX7_answer6 22 = .ok (.aload_n 0, 1) := by decide +kernel
theorem dX7_answer6_23 : decode cX7_answer6 23 = .ok (.getfield 309, 3) := by decide +kernel
theorem dX7_answer6_26 : decode cX7_answer6 26 = .ok (.iadd, 1) := by decide +kernel
theorem dX7_answer6_27 : decode cX7_answer6 27 = .ok (.if_icmp .eq 37, 3) := by decide +kernel
theorem dX7_answer6_30 : decode cX7_answer6 30 = .ok (.aload_n 0, 1) := by decide +kernel
theorem dX7_answer6_31 : decode cX7_answer6 31 = .ok (.getfield 7, 3) := by decide +kernel
theorem dX7_answer6_34 : decode cX7_answer6 34 = .ok (.aload_n 0, 1) := by decide +kernel
theorem dX7_answer6_35 : decode cX7_answer6 35 = .ok (.getfield 306, 3) := by decide +kernel
theorem dX7_answer6_38 : decode cX7_answer6 38 = .ok (.invokestatic 111, 3) := by decide +kernel
theorem dX7_answer6_41 : decode cX7_answer6 41 = .ok (.sipush 128, 3) := by decide +kernel
theorem dX7_answer6_44 : decode cX7_answer6 44 = .ok (.if_icmp .eq 24, 3) := by decide +kernel
theorem dX7_answer6_47 : decode cX7_answer6 47 = .ok (.aload_n 0, 1) := by decide +kernel
theorem dX7_answer6_48 : decode cX7_answer6 48 = .ok (.getfield 7, 3) := by decide +kernel
theorem dX7_answer6_51 : decode cX7_answer6 51 = .ok (.aload_n 0, 1) := by decide +kernel
theorem dX7_answer6_52 : decode cX7_answer6 52 = .ok (.getfield 306, 3) := by decide +kernel
theorem dX7_answer6_55 : decode cX7_answer6 55 = .ok (.invokestatic 111, 3) := by decide +kernel
theorem dX7_answer6_58 : decode cX7_answer6 58 = .ok (.sipush 129, 3) := by decide +kernel
theorem dX7_answer6_61 : decode cX7_answer6 61 = .ok (.if_icmp .eq 7, 3) := by decide +kernel
theorem dX7_answer6_64 : decode cX7_answer6 64 = .ok (.iconst 1, 1) := by decide +kernel
theorem dX7_answer6_65 : decode cX7_answer6 65 = .ok (.goto 4, 3) := by decide +kernel
theorem dX7_answer6_68 : decode cX7_answer6 68 = .ok (.iconst 0, 1) := by decide +kernel
theorem dX7_answer6_69 : decode cX7_answer6 69 = .ok (.istore 4, 2) := by decide +kernel
theorem dX7_answer6_71 : decode cX7_answer6 71 = .ok (.iload 4, 2) := by decide +kernel
theorem dX7_answer6_73 : decode cX7_answer6 73 = .ok (.ifCond .eq 10, 3) := by decide +kernel
theorem dX7_answer6_76 : decode cX7_answer6 76 = .ok (.aload_n 0, 1) := by decide +kernel
theorem dX7_answer6_77 : decode cX7_answer6 77 = .ok (.bipush 9, 2) := by decide +kernel
theorem dX7_answer6_79 : decode cX7_answer6 79 = .ok (.invokevirtual 213, 3) := by decide +kernel
theorem dX7_answer6_82 : decode cX7_answer6 82 = .ok (.ireturn, 1) := by decide +kernel
theorem dX7_answer6_83 : decode cX7_answer6 83 = .ok (.bipush 40, 2) := by decide +kernel
theorem dX7_answer6_85 : decode cX7_answer6 85 = .ok (.aload_n 0, 1) := by decide +kernel
theorem dX7_answer6_86 : decode cX7_answer6 86 = .ok (.getfield 309, 3) := by decide +kernel
theorem dX7_answer6_89 : decode cX7_answer6 89 = .ok (.iadd, 1) := by decide +kernel
theorem dX7_answer6_90 : decode cX7_answer6 90 = .ok (.sipush 1232, 3) := by decide +kernel
theorem dX7_answer6_93 : decode cX7_answer6 93 = .ok (.if_icmp .ge 13, 3) := by decide +kernel
theorem dX7_answer6_96 : decode cX7_answer6 96 = .ok (.bipush 40, 2) := by decide +kernel
theorem dX7_answer6_98 : decode cX7_answer6 98 = .ok (.aload_n 0, 1) := by decide +kernel
theorem dX7_answer6_99 : decode cX7_answer6 99 = .ok (.getfield 309, 3) := by decide +kernel
theorem dX7_answer6_102 : decode cX7_answer6 102 = .ok (.iadd, 1) := by decide +kernel
theorem dX7_answer6_103 : decode cX7_answer6 103 = .ok (.goto 6, 3) := by decide +kernel
theorem dX7_answer6_106 : decode cX7_answer6 106 = .ok (.sipush 1232, 3) := by decide +kernel
theorem dX7_answer6_109 : decode cX7_answer6 109 = .ok (.istore 5, 2) := by decide +kernel
theorem dX7_answer6_111 : decode cX7_answer6 111 = .ok (.aload_n 0, 1) := by decide +kernel
theorem dX7_answer6_112 : decode cX7_answer6 112 = .ok (.bipush 48, 2) := by decide +kernel
theorem dX7_answer6_114 : decode cX7_answer6 114 = .ok (.iload 5, 2) := by decide +kernel
theorem dX7_answer6_116 : decode cX7_answer6 116 = .ok (.iadd, 1) := by decide +kernel
theorem dX7_answer6_117 : decode cX7_answer6 117 = .ok (.invokevirtual 217, 3) := by decide +kernel
theorem dX7_answer6_120 : decode cX7_answer6 120 = .ok (.istore 6, 2) := by decide +kernel
theorem dX7_answer6_122 : decode cX7_answer6 122 = .ok (.aload_n 0, 1) := by decide +kernel
theorem dX7_answer6_123 : decode cX7_answer6 123 = .ok (.getfield 52, 3) := by decide +kernel
theorem dX7_answer6_126 : decode cX7_answer6 126 = .ok (.iload 6, 2) := by decide +kernel
theorem dX7_answer6_128 : decode cX7_answer6 128 = .ok (.bipush 96, 2) := by decide +kernel
theorem dX7_answer6_130 : decode cX7_answer6 130 = .ok (.bastore, 1) := by decide +kernel
theorem dX7_answer6_131 : decode cX7_answer6 131 = .ok (.aload_n 0, 1) := by decide +kernel
theorem dX7_answer6_132 : decode cX7_answer6 132 = .ok (.getfield 52, 3) := by decide +kernel
theorem dX7_answer6_135 : decode cX7_answer6 135 = .ok (.iload 6, 2) := by decide +kernel
theorem dX7_answer6_137 : decode cX7_answer6 137 = .ok (.iconst 4, 1) := by decide +kernel
theorem dX7_answer6_138 : decode cX7_answer6 138 = .ok (.iadd, 1) := by decide +kernel
theorem dX7_answer6_139 : decode cX7_answer6 139 = .ok (.bipush 8, 2) := by decide +kernel
theorem dX7_answer6_141 : decode cX7_answer6 141 = .ok (.iload 5, 2) := by decide +kernel
theorem dX7_answer6_143 : decode cX7_answer6 143 = .ok (.iadd, 1) := by decide +kernel
theorem dX7_answer6_144 : decode cX7_answer6 144 = .ok (.invokestatic 121, 3) := by decide +kernel
theorem dX7_answer6_147 : decode cX7_answer6 147 = .ok (.aload_n 0, 1) := by decide +kernel
theorem dX7_answer6_148 : decode cX7_answer6 148 = .ok (.getfield 52, 3) := by decide +kernel
theorem dX7_answer6_151 : decode cX7_answer6 151 = .ok (.iload 6, 2) := by decide +kernel
theorem dX7_answer6_153 : decode cX7_answer6 153 = .ok (.bipush 6, 2) := by decide +kernel
theorem dX7_answer6_155 : decode cX7_answer6 155 = .ok (.iadd, 1) := by decide +kernel
theorem dX7_answer6_156 : decode cX7_answer6 156 = .ok (.bipush 58, 2) := by decide +kernel
theorem dX7_answer6_158 : decode cX7_answer6 158 = .ok (.bastore, 1) := by decide +kernel
theorem dX7_answer6_159 : decode cX7_answer6 159 = .ok (.aload_n 0, 1) := by decide +kernel
theorem dX7_answer6_160 : decode cX7_answer6 160 = .ok (.getfield 52, 3) := by decide +kernel
theorem dX7_answer6_163 : decode cX7_answer6 163 = .ok (.iload 6, 2) := by decide +kernel
theorem dX7_answer6_165 : decode cX7_answer6 165 = .ok (.bipush 7, 2) := by decide +kernel
theorem dX7_answer6_167 : decode cX7_answer6 167 = .ok (.iadd, 1) := by decide +kernel
theorem dX7_answer6_168 : decode cX7_answer6 168 = .ok (.bipush 64, 2) := by decide +kernel
theorem dX7_answer6_170 : decode cX7_answer6 170 = .ok (.bastore, 1) := by decide +kernel
theorem dX7_answer6_171 : decode cX7_answer6 171 = .ok (.aload_n 0, 1) := by decide +kernel
theorem dX7_answer6_172 : decode cX7_answer6 172 = .ok (.getfield 52, 3) := by decide +kernel
theorem dX7_answer6_175 : decode cX7_answer6 175 = .ok (.iload 6, 2) := by decide +kernel
theorem dX7_answer6_177 : decode cX7_answer6 177 = .ok (.bipush 8, 2) := by decide +kernel
theorem dX7_answer6_179 : decode cX7_answer6 179 = .ok (.iadd, 1) := by decide +kernel
theorem dX7_answer6_180 : decode cX7_answer6 180 = .ok (.aload_n 0, 1) := by decide +kernel
theorem dX7_answer6_181 : decode cX7_answer6 181 = .ok (.getfield 29, 3) := by decide +kernel
theorem dX7_answer6_184 : decode cX7_answer6 184 = .ok (.invokestatic 265, 3) := by decide +kernel
theorem dX7_answer6_187 : decode cX7_answer6 187 = .ok (.aload_n 0, 1) := by decide +kernel
theorem dX7_answer6_188 : decode cX7_answer6 188 = .ok (.getfield 52, 3) := by decide +kernel
theorem dX7_answer6_191 : decode cX7_answer6 191 = .ok (.iload 6, 2) := by decide +kernel
theorem dX7_answer6_193 : decode cX7_answer6 193 = .ok (.bipush 16, 2) := by decide +kernel
theorem dX7_answer6_195 : decode cX7_answer6 195 = .ok (.iadd, 1) := by decide +kernel
theorem dX7_answer6_196 : decode cX7_answer6 196 = .ok (.aload_n 0, 1) := by decide +kernel
theorem dX7_answer6_197 : decode cX7_answer6 197 = .ok (.getfield 32, 3) := by decide +kernel
theorem dX7_answer6_200 : decode cX7_answer6 200 = .ok (.invokestatic 265, 3) := by decide +kernel
theorem dX7_answer6_203 : decode cX7_answer6 203 = .ok (.aload_n 0, 1) := by decide +kernel
theorem dX7_answer6_204 : decode cX7_answer6 204 = .ok (.getfield 52, 3) := by decide +kernel
theorem dX7_answer6_207 : decode cX7_answer6 207 = .ok (.iload 6, 2) := by decide +kernel
theorem dX7_answer6_209 : decode cX7_answer6 209 = .ok (.bipush 24, 2) := by decide +kernel
theorem dX7_answer6_211 : decode cX7_answer6 211 = .ok (.iadd, 1) := by decide +kernel
theorem dX7_answer6_212 : decode cX7_answer6 212 = .ok (.aload_n 0, 1) := by decide +kernel
theorem dX7_answer6_213 : decode cX7_answer6 213 = .ok (.getfield 7, 3) := by decide +kernel
theorem dX7_answer6_216 : decode cX7_answer6 216 = .ok (.bipush 8, 2) := by decide +kernel
theorem dX7_answer6_218 : decode cX7_answer6 218 = .ok (.invokestatic 155, 3) := by decide +kernel
theorem dX7_answer6_221 : decode cX7_answer6 221 = .ok (.invokestatic 265, 3) := by decide +kernel
theorem dX7_answer6_224 : decode cX7_answer6 224 = .ok (.aload_n 0, 1) := by decide +kernel
theorem dX7_answer6_225 : decode cX7_answer6 225 = .ok (.getfield 52, 3) := by decide +kernel
theorem dX7_answer6_228 : decode cX7_answer6 228 = .ok (.iload 6, 2) := by decide +kernel
theorem dX7_answer6_230 : decode cX7_answer6 230 = .ok (.bipush 32, 2) := by decide +kernel
theorem dX7_answer6_232 : decode cX7_answer6 232 = .ok (.iadd, 1) := by decide +kernel
theorem dX7_answer6_233 : decode cX7_answer6 233 = .ok (.aload_n 0, 1) := by decide +kernel
theorem dX7_answer6_234 : decode cX7_answer6 234 = .ok (.getfield 7, 3) := by decide +kernel
theorem dX7_answer6_237 : decode cX7_answer6 237 = .ok (.bipush 16, 2) := by decide +kernel
theorem dX7_answer6_239 : decode cX7_answer6 239 = .ok (.invokestatic 155, 3) := by decide +kernel
theorem dX7_answer6_242 : decode cX7_answer6 242 = .ok (.invokestatic 265, 3) := by decide +kernel
theorem dX7_answer6_245 : decode cX7_answer6 245 = .ok (.aload_n 0, 1) := by decide +kernel
theorem dX7_answer6_246 : decode cX7_answer6 246 = .ok (.getfield 52, 3) := by decide +kernel
theorem dX7_answer6_249 : decode cX7_answer6 249 = .ok (.iload 6, 2) := by decide +kernel
theorem dX7_answer6_251 : decode cX7_answer6 251 = .ok (.bipush 40, 2) := by decide +kernel
theorem dX7_answer6_253 : decode cX7_answer6 253 = .ok (.iadd, 1) := by decide +kernel
theorem dX7_answer6_254 : decode cX7_answer6 254 = .ok (.iload_n 1, 1) := by decide +kernel
theorem dX7_answer6_255 : decode cX7_answer6 255 = .ok (.i2b, 1) := by decide +kernel
theorem dX7_answer6_256 : decode cX7_answer6 256 = .ok (.bastore, 1) := by decide +kernel
theorem dX7_answer6_257 : decode cX7_answer6 257 = .ok (.aload_n 0, 1) := by decide +kernel
theorem dX7_answer6_258 : decode cX7_answer6 258 = .ok (.getfield 52, 3) := by decide +kernel
theorem dX7_answer6_261 : decode cX7_answer6 261 = .ok (.iload 6, 2) := by decide +kernel
theorem dX7_answer6_263 : decode cX7_answer6 263 = .ok (.bipush 41, 2) := by decide +kernel
theorem dX7_answer6_265 : decode cX7_answer6 265 = .ok (.iadd, 1) := by decide +kernel
theorem dX7_answer6_266 : decode cX7_answer6 266 = .ok (.iload_n 2, 1) := by decide +kernel
theorem dX7_answer6_267 : decode cX7_answer6 267 = .ok (.i2b, 1) := by decide +kernel
theorem dX7_answer6_268 : decode cX7_answer6 268 = .ok (.bastore, 1) := by decide +kernel
theorem dX7_answer6_269 : decode cX7_answer6 269 = .ok (.aload_n 0, 1) := by decide +kernel
theorem dX7_answer6_270 : decode cX7_answer6 270 = .ok (.getfield 52, 3) := by decide +kernel
theorem dX7_answer6_273 : decode cX7_answer6 273 = .ok (.iload 6, 2) := by decide +kernel
theorem dX7_answer6_275 : decode cX7_answer6 275 = .ok (.bipush 44, 2) := by decide +kernel
theorem dX7_answer6_277 : decode cX7_answer6 277 = .ok (.iadd, 1) := by decide +kernel
theorem dX7_answer6_278 : decode cX7_answer6 278 = .ok (.iload_n 3, 1) := by decide +kernel
theorem dX7_answer6_279 : decode cX7_answer6 279 = .ok (.invokestatic 125, 3) := by decide +kernel
theorem dX7_answer6_282 : decode cX7_answer6 282 = .ok (.iconst 0, 1) := by decide +kernel
theorem dX7_answer6_283 : decode cX7_answer6 283 = .ok (.istore 7, 2) := by decide +kernel
theorem dX7_answer6_285 : decode cX7_answer6 285 = .ok (.iload 7, 2) := by decide +kernel
theorem dX7_answer6_287 : decode cX7_answer6 287 = .ok (.iload 5, 2) := by decide +kernel
theorem dX7_answer6_289 : decode cX7_answer6 289 = .ok (.if_icmp .ge 29, 3) := by decide +kernel
theorem dX7_answer6_292 : decode cX7_answer6 292 = .ok (.aload_n 0, 1) := by decide +kernel
theorem dX7_answer6_293 : decode cX7_answer6 293 = .ok (.getfield 52, 3) := by decide +kernel
theorem dX7_answer6_296 : decode cX7_answer6 296 = .ok (.iload 6, 2) := by decide +kernel
theorem dX7_answer6_298 : decode cX7_answer6 298 = .ok (.bipush 48, 2) := by decide +kernel
theorem dX7_answer6_300 : decode cX7_answer6 300 = .ok (.iadd, 1) := by decide +kernel
theorem dX7_answer6_301 : decode cX7_answer6 301 = .ok (.iload 7, 2) := by decide +kernel
theorem dX7_answer6_303 : decode cX7_answer6 303 = .ok (.iadd, 1) := by decide +kernel
theorem dX7_answer6_304 : decode cX7_answer6 304 = .ok (.aload_n 0, 1) := by decide +kernel
theorem dX7_answer6_305 : decode cX7_answer6 305 = .ok (.getfield 7, 3) := by decide +kernel
theorem dX7_answer6_308 : decode cX7_answer6 308 = .ok (.iload 7, 2) := by decide +kernel
theorem dX7_answer6_310 : decode cX7_answer6 310 = .ok (.baload, 1) := by decide +kernel
theorem dX7_answer6_311 : decode cX7_answer6 311 = .ok (.bastore, 1) := by decide +kernel
theorem dX7_answer6_312 : decode cX7_answer6 312 = .ok (.iinc 7 1, 3) := by decide +kernel
theorem dX7_answer6_315 : decode cX7_answer6 315 = .ok (.goto (-30), 3) := by decide +kernel
theorem dX7_answer6_318 : decode cX7_answer6 318 = .ok (.aload_n 0, 1) := by decide +kernel
theorem dX7_answer6_319 : decode cX7_answer6 319 = .ok (.lconst 0, 1) := by decide +kernel
theorem dX7_answer6_320 : decode cX7_answer6 320 = .ok (.putfield 102, 3) := by decide +kernel
theorem dX7_answer6_323 : decode cX7_answer6 323 = .ok (.aload_n 0, 1) := by decide +kernel
theorem dX7_answer6_324 : decode cX7_answer6 324 = .ok (.aload_n 0, 1) := by decide +kernel
theorem dX7_answer6_325 : decode cX7_answer6 325 = .ok (.getfield 52, 3) := by decide +kernel
theorem dX7_answer6_328 : decode cX7_answer6 328 = .ok (.iload 6, 2) := by decide +kernel
theorem dX7_answer6_330 : decode cX7_answer6 330 = .ok (.bipush 8, 2) := by decide +kernel
theorem dX7_answer6_332 : decode cX7_answer6 332 = .ok (.iadd, 1) := by decide +kernel
theorem dX7_answer6_333 : decode cX7_answer6 333 = .ok (.iload 6, 2) := by decide +kernel
theorem dX7_answer6_335 : decode cX7_answer6 335 = .ok (.bipush 40, 2) := by decide +kernel
theorem dX7_answer6_337 : decode cX7_answer6 337 = .ok (.iadd, 1) := by decide +kernel
theorem dX7_answer6_338 : decode cX7_answer6 338 = .ok (.invokevirtual 206, 3) := by decide +kernel
theorem dX7_answer6_341 : decode cX7_answer6 341 = .ok (.aload_n 0, 1) := by decide +kernel
theorem dX7_answer6_342 : decode cX7_answer6 342 = .ok (.bipush 8, 2) := by decide +kernel
theorem dX7_answer6_344 : decode cX7_answer6 344 = .ok (.iload 5, 2) := by decide +kernel
theorem dX7_answer6_346 : decode cX7_answer6 346 = .ok (.iadd, 1) := by decide +kernel
theorem dX7_answer6_347 : decode cX7_answer6 347 = .ok (.iconst 0, 1) := by decide +kernel
theorem dX7_answer6_348 : decode cX7_answer6 348 = .ok (.invokevirtual 163, 3) := by decide +kernel
theorem dX7_answer6_351 : decode cX7_answer6 351 = .ok (.aload_n 0, 1) := by decide +kernel
theorem dX7_answer6_352 : decode cX7_answer6 352 = .ok (.bipush 58, 2) := by decide +kernel
theorem dX7_answer6_354 : decode cX7_answer6 354 = .ok (.iconst 0, 1) := by decide +kernel
theorem dX7_answer6_355 : decode cX7_answer6 355 = .ok (.invokevirtual 163, 3) := by decide +kernel
theorem dX7_answer6_358 : decode cX7_answer6 358 = .ok (.aload_n 0, 1) := by decide +kernel
theorem dX7_answer6_359 : decode cX7_answer6 359 = .ok (.aload_n 0, 1) := by decide +kernel
theorem dX7_answer6_360 : decode cX7_answer6 360 = .ok (.getfield 52, 3) := by decide +kernel
theorem dX7_answer6_363 : decode cX7_answer6 363 = .ok (.iload 6, 2) := by decide +kernel
theorem dX7_answer6_365 : decode cX7_answer6 365 = .ok (.bipush 40, 2) := by decide +kernel
theorem dX7_answer6_367 : decode cX7_answer6 367 = .ok (.iadd, 1) := by decide +kernel
theorem dX7_answer6_368 : decode cX7_answer6 368 = .ok (.aload_n 0, 1) := by decide +kernel
theorem dX7_answer6_369 : decode cX7_answer6 369 = .ok (.getfield 128, 3) := by decide +kernel
theorem dX7_answer6_372 : decode cX7_answer6 372 = .ok (.invokevirtual 206, 3) := by decide +kernel
theorem dX7_answer6_375 : decode cX7_answer6 375 = .ok (.aload_n 0, 1) := by decide +kernel
theorem dX7_answer6_376 : decode cX7_answer6 376 = .ok (.getfield 52, 3) := by decide +kernel
theorem dX7_answer6_379 : decode cX7_answer6 379 = .ok (.iload 6, 2) := by decide +kernel
theorem dX7_answer6_381 : decode cX7_answer6 381 = .ok (.bipush 42, 2) := by decide +kernel
theorem dX7_answer6_383 : decode cX7_answer6 383 = .ok (.iadd, 1) := by decide +kernel
theorem dX7_answer6_384 : decode cX7_answer6 384 = .ok (.aload_n 0, 1) := by decide +kernel
theorem dX7_answer6_385 : decode cX7_answer6 385 = .ok (.invokevirtual 177, 3) := by decide +kernel
theorem dX7_answer6_388 : decode cX7_answer6 388 = .ok (.invokestatic 121, 3) := by decide +kernel
theorem dX7_answer6_391 : decode cX7_answer6 391 = .ok (.aload_n 0, 1) := by decide +kernel
theorem dX7_answer6_392 : decode cX7_answer6 392 = .ok (.invokevirtual 223, 3) := by decide +kernel
theorem dX7_answer6_395 : decode cX7_answer6 395 = .ok (.aload_n 0, 1) := by decide +kernel
theorem dX7_answer6_396 : decode cX7_answer6 396 = .ok (.bipush 10, 2) := by decide +kernel
theorem dX7_answer6_398 : decode cX7_answer6 398 = .ok (.invokevirtual 213, 3) := by decide +kernel
theorem dX7_answer6_401 : decode cX7_answer6 401 = .ok (.ireturn, 1) := by decide +kernel
theorem dX7_six_0 : decode cX7_six 0 = .ok (.aload_n 0, 1) := by decide +kernel
theorem dX7_six_1 : decode cX7_six 1 = .ok (.invokevirtual 226, 3) := by decide +kernel
theorem dX7_six_4 : decode cX7_six 4 = .ok (.aload_n 0, 1) := by decide +kernel
theorem dX7_six_5 : decode cX7_six 5 = .ok (.getfield 64, 3) := by decide +kernel
theorem dX7_six_8 : decode cX7_six 8 = .ok (.istore_n 1, 1) := by decide +kernel
theorem dX7_six_9 : decode cX7_six 9 = .ok (.aload_n 0, 1) := by decide +kernel
theorem dX7_six_10 : decode cX7_six 10 = .ok (.iconst 0, 1) := by decide +kernel
theorem dX7_six_11 : decode cX7_six 11 = .ok (.putfield 64, 3) := by decide +kernel
theorem dX7_six_14 : decode cX7_six 14 = .ok (.aload_n 0, 1) := by decide +kernel
theorem dX7_six_15 : decode cX7_six 15 = .ok (.iload_n 1, 1) := by decide +kernel
theorem dX7_six_16 : decode cX7_six 16 = .ok (.invokevirtual 315, 3) := by decide +kernel
theorem dX7_six_19 : decode cX7_six 19 = .ok (.ifCond .ne 9, 3) := by decide +kernel
theorem dX7_six_22 : decode cX7_six 22 = .ok (.aload_n 0, 1) := by decide +kernel
theorem dX7_six_23 : decode cX7_six 23 = .ok (.iconst 1, 1) := by decide +kernel
theorem dX7_six_24 : decode cX7_six 24 = .ok (.invokevirtual 213, 3) := by decide +kernel
theorem dX7_six_27 : decode cX7_six 27 = .ok (.ireturn, 1) := by decide +kernel
theorem dX7_six_28 : decode cX7_six 28 = .ok (.aload_n 0, 1) := by decide +kernel
theorem dX7_six_29 : decode cX7_six 29 = .ok (.aload_n 0, 1) := by decide +kernel
theorem dX7_six_30 : decode cX7_six 30 = .ok (.getfield 7, 3) := by decide +kernel
theorem dX7_six_33 : decode cX7_six 33 = .ok (.iconst 0, 1) := by decide +kernel
theorem dX7_six_34 : decode cX7_six 34 = .ok (.invokevirtual 318, 3) := by decide +kernel
theorem dX7_six_37 : decode cX7_six 37 = .ok (.istore_n 2, 1) := by decide +kernel
theorem dX7_six_38 : decode cX7_six 38 = .ok (.aload_n 0, 1) := by decide +kernel
theorem dX7_six_39 : decode cX7_six 39 = .ok (.aload_n 0, 1) := by decide +kernel
theorem dX7_six_40 : decode cX7_six 40 = .ok (.getfield 143, 3) := by decide +kernel
theorem dX7_six_43 : decode cX7_six 43 = .ok (.aload_n 0, 1) := by decide +kernel
theorem dX7_six_44 : decode cX7_six 44 = .ok (.getfield 146, 3) := by decide +kernel
theorem dX7_six_47 : decode cX7_six 47 = .ok (.invokevirtual 94, 3) := by decide +kernel
theorem dX7_six_50 : decode cX7_six 50 = .ok (.ifCond .ne 9, 3) := by decide +kernel
theorem dX7_six_53 : decode cX7_six 53 = .ok (.aload_n 0, 1) := by decide +kernel
theorem dX7_six_54 : decode cX7_six 54 = .ok (.iconst 2, 1) := by decide +kernel
theorem dX7_six_55 : decode cX7_six 55 = .ok (.invokevirtual 213, 3) := by decide +kernel
theorem dX7_six_58 : decode cX7_six 58 = .ok (.ireturn, 1) := by decide +kernel
theorem dX7_six_59 : decode cX7_six 59 = .ok (.iload_n 2, 1) := by decide +kernel
theorem dX7_six_60 : decode cX7_six 60 = .ok (.ifCond .ne 9, 3) := by decide +kernel
theorem dX7_six_63 : decode cX7_six 63 = .ok (.aload_n 0, 1) := by decide +kernel
theorem dX7_six_64 : decode cX7_six 64 = .ok (.iconst 3, 1) := by decide +kernel
theorem dX7_six_65 : decode cX7_six 65 = .ok (.invokevirtual 213, 3) := by decide +kernel
theorem dX7_six_68 : decode cX7_six 68 = .ok (.ireturn, 1) := by decide +kernel
theorem dX7_six_69 : decode cX7_six 69 = .ok (.aload_n 0, 1) := by decide +kernel
theorem dX7_six_70 : decode cX7_six 70 = .ok (.getfield 302, 3) := by decide +kernel
theorem dX7_six_73 : decode cX7_six 73 = .ok (.ifCond .lt 14, 3) := by decide +kernel
theorem dX7_six_76 : decode cX7_six 76 = .ok (.aload_n 0, 1) := by decide +kernel
theorem dX7_six_77 : decode cX7_six 77 = .ok (.iconst 4, 1) := by decide +kernel
theorem dX7_six_78 : decode cX7_six 78 = .ok (.iconst 0, 1) := by decide +kernel
theorem dX7_six_79 : decode cX7_six 79 = .ok (.aload_n 0, 1) := by decide +kernel
theorem dX7_six_80 : decode cX7_six 80 = .ok (.getfield 302, 3) := by decide +kernel
theorem dX7_six_83 : decode cX7_six 83 = .ok (.invokevirtual 322, 3) := by decide +kernel
theorem dX7_six_86 : decode cX7_six 86 = .ok (.ireturn, 1) := by decide +kernel
theorem dX7_six_87 : decode cX7_six 87 = .ok (.aload_n 0, 1) := by decide +kernel
theorem dX7_six_88 : decode cX7_six 88 = .ok (.getfield 7, 3) := by decide +kernel
theorem dX7_six_91 : decode cX7_six 91 = .ok (.bipush 7, 2) := by decide +kernel
theorem dX7_six_93 : decode cX7_six 93 = .ok (.invokestatic 111, 3) := by decide +kernel
theorem dX7_six_96 : decode cX7_six 96 = .ok (.istore_n 3, 1) := by decide +kernel
theorem dX7_six_97 : decode cX7_six 97 = .ok (.iload_n 3, 1) := by decide +kernel
theorem dX7_six_98 : decode cX7_six 98 = .ok (.iconst 2, 1) := by decide +kernel
theorem dX7_six_99 : decode cX7_six 99 = .ok (.if_icmp .ge 11, 3) := by decide +kernel
theorem dX7_six_102 : decode cX7_six 102 = .ok (.aload_n 0, 1) := by decide +kernel
theorem dX7_six_103 : decode cX7_six 103 = .ok (.iconst 3, 1) := by decide +kernel
theorem dX7_six_104 : decode cX7_six 104 = .ok (.iconst 0, 1) := by decide +kernel
theorem dX7_six_105 : decode cX7_six 105 = .ok (.iconst 0, 1) := by decide +kernel
theorem dX7_six_106 : decode cX7_six 106 = .ok (.invokevirtual 322, 3) := by decide +kernel
theorem dX7_six_109 : decode cX7_six 109 = .ok (.ireturn, 1) := by decide +kernel
theorem dX7_six_110 : decode cX7_six 110 = .ok (.aload_n 0, 1) := by decide +kernel
theorem dX7_six_111 : decode cX7_six 111 = .ok (.getfield 197, 3) := by decide +kernel
theorem dX7_six_114 : decode cX7_six 114 = .ok (.invokestatic 325, 3) := by decide +kernel
theorem dX7_six_117 : decode cX7_six 117 = .ok (.ifCond .eq 10, 3) := by decide +kernel
theorem dX7_six_120 : decode cX7_six 120 = .ok (.aload_n 0, 1) := by decide +kernel
theorem dX7_six_121 : decode cX7_six 121 = .ok (.bipush 6, 2) := by decide +kernel
theorem dX7_six_123 : decode cX7_six 123 = .ok (.invokevirtual 213, 3) := by decide +kernel
theorem dX7_six_126 : decode cX7_six 126 = .ok (.ireturn, 1) := by decide +kernel
theorem dX7_six_127 : decode cX7_six 127 = .ok (.aload_n 0, 1) := by decide +kernel
theorem dX7_six_128 : decode cX7_six 128 = .ok (.getfield 197, 3) := by decide +kernel
theorem dX7_six_131 : decode cX7_six 131 = .ok (.bipush 58, 2) := by decide +kernel
theorem dX7_six_133 : decode cX7_six 133 = .ok (.if_icmp .ne 23, 3) := by decide +kernel
theorem dX7_six_136 : decode cX7_six 136 = .ok (.aload_n 0, 1) := by decide +kernel
theorem dX7_six_137 : decode cX7_six 137 = .ok (.getfield 194, 3) := by decide +kernel
theorem dX7_six_140 : decode cX7_six 140 = .ok (.ifCond .ne 10, 3) := by decide +kernel
theorem dX7_six_143 : decode cX7_six 143 = .ok (.aload_n 0, 1) := by decide +kernel
theorem dX7_six_144 : decode cX7_six 144 = .ok (.getfield 191, 3) := by decide +kernel
theorem dX7_six_147 : decode cX7_six 147 = .ok (.ifCond .le 9, 3) := by decide +kernel
theorem dX7_six_150 : decode cX7_six 150 = .ok (.aload_n 0, 1) := by decide +kernel
theorem dX7_six_151 : decode cX7_six 151 = .ok (.iconst 5, 1) := by decide +kernel
theorem dX7_six_152 : decode cX7_six 152 = .ok (.invokevirtual 213, 3) := by decide +kernel
theorem dX7_six_155 : decode cX7_six 155 = .ok (.ireturn, 1) := by decide +kernel
theorem dX7_six_156 : decode cX7_six 156 = .ok (.bipush 40, 2) := by decide +kernel
theorem dX7_six_158 : decode cX7_six 158 = .ok (.aload_n 0, 1) := by decide +kernel
theorem dX7_six_159 : decode cX7_six 159 = .ok (.getfield 309, 3) := by decide +kernel
theorem dX7_six_162 : decode cX7_six 162 = .ok (.iadd, 1) := by decide +kernel
theorem dX7_six_163 : decode cX7_six 163 = .ok (.aload_n 0, 1) := by decide +kernel
theorem dX7_six_164 : decode cX7_six 164 = .ok (.getfield 306, 3) := by decide +kernel
theorem dX7_six_167 : decode cX7_six 167 = .ok (.isub, 1) := by decide +kernel
theorem dX7_six_168 : decode cX7_six 168 = .ok (.istore 4, 2) := by decide +kernel
theorem dX7_six_170 : decode cX7_six 170 = .ok (.aload_n 0, 1) := by decide +kernel
theorem dX7_six_171 : decode cX7_six 171 = .ok (.getfield 191, 3) := by decide +kernel
theorem dX7_six_174 : decode cX7_six 174 = .ok (.ifCond .ne 22, 3) := by decide +kernel
theorem dX7_six_177 : decode cX7_six 177 = .ok (.aload_n 0, 1) := by decide +kernel
theorem dX7_six_178 : decode cX7_six 178 = .ok (.aload_n 0, 1) := by decide +kernel
theorem dX7_six_179 : decode cX7_six 179 = .ok (.getfield 306, 3) := by decide +kernel
theorem dX7_six_182 : decode cX7_six 182 = .ok (.iload 4, 2) := by decide +kernel
theorem dX7_six_184 : decode cX7_six 184 = .ok (.aload_n 0, 1) := by decide +kernel
theorem dX7_six_185 : decode cX7_six 185 = .ok (.getfield 194, 3) := by decide +kernel
theorem dX7_six_188 : decode cX7_six 188 = .ok (.bipush 58, 2) := by decide +kernel
theorem dX7_six_190 : decode cX7_six 190 = .ok (.invokevirtual 243, 3) := by decide +kernel
theorem dX7_six_193 : decode cX7_six 193 = .ok (.goto 4, 3) := by decide +kernel
theorem dX7_six_196 : decode cX7_six 196 = .ok (.iconst 0, 1) := by decide +kernel
theorem dX7_six_197 : decode cX7_six 197 = .ok (.istore 5, 2) := by decide +kernel
theorem dX7_six_199 : decode cX7_six 199 = .ok (.iload 5, 2) := by decide +kernel
theorem dX7_six_201 : decode cX7_six 201 = .ok (.ifCond .le 10, 3) := by decide +kernel
theorem dX7_six_204 : decode cX7_six 204 = .ok (.aload_n 0, 1) := by decide +kernel
theorem dX7_six_205 : decode cX7_six 205 = .ok (.iload 5, 2) := by decide +kernel
theorem dX7_six_207 : decode cX7_six 207 = .ok (.invokevirtual 213, 3) := by decide +kernel
theorem dX7_six_210 : decode cX7_six 210 = .ok (.ireturn, 1) := by decide +kernel
theorem dX7_six_211 : decode cX7_six 211 = .ok (.aload_n 0, 1) := by decide +kernel
theorem dX7_six_212 : decode cX7_six 212 = .ok (.getfield 197, 3) := by decide +kernel
theorem dX7_six_215 : decode cX7_six 215 = .ok (.bipush 17, 2) := by decide +kernel
theorem dX7_six_217 : decode cX7_six 217 = .ok (.if_icmp .ne 34, 3) := by decide +kernel
theorem dX7_six_220 : decode cX7_six 220 = .ok (.aload_n 0, 1) := by decide +kernel
theorem dX7_six_221 : decode cX7_six 221 = .ok (.getfield 191, 3) := by decide +kernel
theorem dX7_six_224 : decode cX7_six 224 = .ok (.ifCond .ne 27, 3) := by decide +kernel
theorem dX7_six_227 : decode cX7_six 227 = .ok (.aload_n 0, 1) := by decide +kernel
theorem dX7_six_228 : decode cX7_six 228 = .ok (.getfield 7, 3) := by decide +kernel
theorem dX7_six_231 : decode cX7_six 231 = .ok (.aload_n 0, 1) := by decide +kernel
theorem dX7_six_232 : decode cX7_six 232 = .ok (.getfield 306, 3) := by decide +kernel
theorem dX7_six_235 : decode cX7_six 235 = .ok (.bipush 6, 2) := by decide +kernel
theorem dX7_six_237 : decode cX7_six 237 = .ok (.iadd, 1) := by decide +kernel
theorem dX7_six_238 : decode cX7_six 238 = .ok (.invokestatic 115, 3) := by decide +kernel
theorem dX7_six_241 : decode cX7_six 241 = .ok (.ifCond .ne 10, 3) := by decide +kernel
theorem dX7_six_244 : decode cX7_six 244 = .ok (.aload_n 0, 1) := by decide +kernel
theorem dX7_six_245 : decode cX7_six 245 = .ok (.bipush 7, 2) := by decide +kernel
theorem dX7_six_247 : decode cX7_six 247 = .ok (.invokevirtual 213, 3) := by decide +kernel
theorem dX7_six_250 : decode cX7_six 250 = .ok (.ireturn, 1) := by decide +kernel
theorem dX7_six_251 : decode cX7_six 251 = .ok (.aload_n 0, 1) := by decide +kernel
theorem dX7_six_252 : decode cX7_six 252 = .ok (.aload_n 0, 1) := by decide +kernel
theorem dX7_six_253 : decode cX7_six 253 = .ok (.getfield 7, 3) := by decide +kernel
theorem dX7_six_256 : decode cX7_six 256 = .ok (.aload_n 0, 1) := by decide +kernel
theorem dX7_six_257 : decode cX7_six 257 = .ok (.getfield 306, 3) := by decide +kernel
theorem dX7_six_260 : decode cX7_six 260 = .ok (.iload 4, 2) := by decide +kernel
theorem dX7_six_262 : decode cX7_six 262 = .ok (.invokevirtual 247, 3) := by decide +kernel
theorem dX7_six_265 : decode cX7_six 265 = .ok (.aload_n 0, 1) := by decide +kernel
theorem dX7_six_266 : decode cX7_six 266 = .ok (.getfield 299, 3) := by decide +kernel
theorem dX7_six_269 : decode cX7_six 269 = .ok (.istore 6, 2) := by decide +kernel
theorem dX7_six_271 : decode cX7_six 271 = .ok (.aload_n 0, 1) := by decide +kernel
theorem dX7_six_272 : decode cX7_six 272 = .ok (.getfield 197, 3) := by decide +kernel
theorem dX7_six_275 : decode cX7_six 275 = .ok (.bipush 58, 2) := by decide +kernel
theorem dX7_six_277 : decode cX7_six 277 = .ok (.if_icmp .ne 26, 3) := by decide +kernel
theorem dX7_six_280 : decode cX7_six 280 = .ok (.aload_n 0, 1) := by decide +kernel
theorem dX7_six_281 : decode cX7_six 281 = .ok (.iload 4, 2) := by decide +kernel
theorem dX7_six_283 : decode cX7_six 283 = .ok (.invokevirtual 328, 3) := by decide +kernel
theorem dX7_six_286 : decode cX7_six 286 = .ok (.istore 7, 2) := by decide +kernel
theorem dX7_six_288 : decode cX7_six 288 = .ok (.iload 7, 2) := by decide +kernel
theorem dX7_six_290 : decode cX7_six 290 = .ok (.ifCond .le 10, 3) := by decide +kernel
theorem dX7_six_293 : decode cX7_six 293 = .ok (.aload_n 0, 1) := by decide +kernel
theorem dX7_six_294 : decode cX7_six 294 = .ok (.iload 7, 2) := by decide +kernel
theorem dX7_six_296 : decode cX7_six 296 = .ok (.invokevirtual 213, 3) := by decide +kernel
theorem dX7_six_299 : decode cX7_six 299 = .ok (.ireturn, 1) := by decide +kernel
theorem dX7_six_300 : decode cX7_six 300 = .ok (.goto 48, 3) := by decide +kernel
theorem dX7_six_303 : decode cX7_six 303 = .ok (.aload_n 0, 1) := by decide +kernel
theorem dX7_six_304 : decode cX7_six 304 = .ok (.getfield 191, 3) := by decide +kernel
theorem dX7_six_307 : decode cX7_six 307 = .ok (.ifCond .ne 41, 3) := by decide +kernel
theorem dX7_six_310 : decode cX7_six 310 = .ok (.aload_n 0, 1) := by decide +kernel
theorem dX7_six_311 : decode cX7_six 311 = .ok (.getfield 197, 3) := by decide +kernel
theorem dX7_six_314 : decode cX7_six 314 = .ok (.bipush 17, 2) := by decide +kernel
theorem dX7_six_316 : decode cX7_six 316 = .ok (.if_icmp .eq 12, 3) := by decide +kernel
theorem dX7_six_319 : decode cX7_six 319 = .ok (.aload_n 0, 1) := by decide +kernel
theorem dX7_six_320 : decode cX7_six 320 = .ok (.getfield 197, 3) := by decide +kernel
theorem dX7_six_323 : decode cX7_six 323 = .ok (.bipush 6, 2) := by decide +kernel
theorem dX7_six_325 : decode cX7_six 325 = .ok (.if_icmp .ne 23, 3) := by decide +kernel
theorem dX7_six_328 : decode cX7_six 328 = .ok (.aload_n 0, 1) := by decide +kernel
theorem dX7_six_329 : decode cX7_six 329 = .ok (.aload_n 0, 1) := by decide +kernel
theorem dX7_six_330 : decode cX7_six 330 = .ok (.getfield 58, 3) := by decide +kernel
theorem dX7_six_333 : decode cX7_six 333 = .ok (.aload_n 0, 1) := by decide +kernel
theorem dX7_six_334 : decode cX7_six 334 = .ok (.getfield 197, 3) := by decide +kernel
theorem dX7_six_337 : decode cX7_six 337 = .ok (.invokestatic 253, 3) := by decide +kernel
theorem dX7_six_340 : decode cX7_six 340 = .ok (.aload_n 0, 1) := by decide +kernel
theorem dX7_six_341 : decode cX7_six 341 = .ok (.getfield 197, 3) := by decide +kernel
theorem dX7_six_344 : decode cX7_six 344 = .ok (.iconst 0, 1) := by decide +kernel
theorem dX7_six_345 : decode cX7_six 345 = .ok (.invokevirtual 256, 3) := by decide +kernel
theorem dX7_six_348 : decode cX7_six 348 = .ok (.bipush 20, 2) := by decide +kernel
theorem dX7_six_350 : decode cX7_six 350 = .ok (.aload_n 0, 1) := by decide +kernel
theorem dX7_six_351 : decode cX7_six 351 = .ok (.getfield 134, 3) := by decide +kernel
theorem dX7_six_354 : decode cX7_six 354 = .ok (.iadd, 1) := by decide +kernel
theorem dX7_six_355 : decode cX7_six 355 = .ok (.istore 7, 2) := by decide +kernel
theorem dX7_six_357 : decode cX7_six 357 = .ok (.iload 7, 2) := by decide +kernel
theorem dX7_six_359 : decode cX7_six 359 = .ok (.ldc 107, 2) := by decide +kernel
theorem dX7_six_361 : decode cX7_six 361 = .ok (.if_icmp .le 9, 3) := by decide +kernel
theorem dX7_six_364 : decode cX7_six 364 = .ok (.aload_n 0, 1) := by decide +kernel
theorem dX7_six_365 : decode cX7_six 365 = .ok (.iconst 4, 1) := by decide +kernel
theorem dX7_six_366 : decode cX7_six 366 = .ok (.invokevirtual 213, 3) := by decide +kernel
theorem dX7_six_369 : decode cX7_six 369 = .ok (.ireturn, 1) := by decide +kernel
theorem dX7_six_370 : decode cX7_six 370 = .ok (.iload 6, 2) := by decide +kernel
theorem dX7_six_372 : decode cX7_six 372 = .ok (.ifCond .ge 15, 3) := by decide +kernel
theorem dX7_six_375 : decode cX7_six 375 = .ok (.iload 7, 2) := by decide +kernel
theorem dX7_six_377 : decode cX7_six 377 = .ok (.sipush 1260, 3) := by decide +kernel
theorem dX7_six_380 : decode cX7_six 380 = .ok (.if_icmp .le 7, 3) := by decide +kernel
theorem dX7_six_383 : decode cX7_six 383 = .ok (.iconst 1, 1) := by decide +kernel
theorem dX7_six_384 : decode cX7_six 384 = .ok (.goto 4, 3) := by decide +kernel
theorem dX7_six_387 : decode cX7_six 387 = .ok (.iconst 0, 1) := by decide +kernel
theorem dX7_six_388 : decode cX7_six 388 = .ok (.istore 8, 2) := by decide +kernel
theorem dX7_six_390 : decode cX7_six 390 = .ok (.iload 8, 2) := by decide +kernel
theorem dX7_six_392 : decode cX7_six 392 = .ok (.ifCond .eq 26, 3) := by decide +kernel
theorem dX7_six_395 : decode cX7_six 395 = .ok (.iload 7, 2) := by decide +kernel
theorem dX7_six_397 : decode cX7_six 397 = .ok (.aload_n 0, 1) := by decide +kernel
theorem dX7_six_398 : decode cX7_six 398 = .ok (.getfield 35, 3) := by decide +kernel
theorem dX7_six_401 : decode cX7_six 401 = .ok (.if_icmp .le 17, 3) := by decide +kernel
theorem dX7_six_404 : decode cX7_six 404 = .ok (.aload_n 0, 1) := by decide +kernel
theorem dX7_six_405 : decode cX7_six 405 = .ok (.iconst 2, 1) := by decide +kernel
theorem dX7_six_406 : decode cX7_six 406 = .ok (.iconst 0, 1) := by decide +kernel
theorem dX7_six_407 : decode cX7_six 407 = .ok (.aload_n 0, 1) := by decide +kernel
theorem dX7_six_408 : decode cX7_six 408 = .ok (.getfield 35, 3) := by decide +kernel
theorem dX7_six_411 : decode cX7_six 411 = .ok (.bipush 20, 2) := by decide +kernel
theorem dX7_six_413 : decode cX7_six 413 = .ok (.iadd, 1) := by decide +kernel
theorem dX7_six_414 : decode cX7_six 414 = .ok (.invokevirtual 322, 3) := by decide +kernel
theorem dX7_six_417 : decode cX7_six 417 = .ok (.ireturn, 1) := by decide +kernel
theorem dX7_six_418 : decode cX7_six 418 = .ok (.iconst 0, 1) := by decide +kernel
theorem dX7_six_419 : decode cX7_six 419 = .ok (.istore 9, 2) := by decide +kernel
theorem dX7_six_421 : decode cX7_six 421 = .ok (.iload 6, 2) := by decide +kernel
theorem dX7_six_423 : decode cX7_six 423 = .ok (.ifCond .lt 20, 3) := by decide +kernel
theorem dX7_six_426 : decode cX7_six 426 = .ok (.aload_n 0, 1) := by decide +kernel
theorem dX7_six_427 : decode cX7_six 427 = .ok (.getfield 7, 3) := by decide +kernel
theorem dX7_six_430 : decode cX7_six 430 = .ok (.iload 6, 2) := by decide +kernel
theorem dX7_six_432 : decode cX7_six 432 = .ok (.bipush 6, 2) := by decide +kernel
theorem dX7_six_434 : decode cX7_six 434 = .ok (.iadd, 1) := by decide +kernel
theorem dX7_six_435 : decode cX7_six 435 = .ok (.invokestatic 115, 3) := by decide +kernel
theorem dX7_six_438 : decode cX7_six 438 = .ok (.istore 9, 2) := by decide +kernel
theorem dX7_six_440 : decode cX7_six 440 = .ok (.goto 27, 3) := by decide +kernel
theorem dX7_six_443 : decode cX7_six 443 = .ok (.iload 8, 2) := by decide +kernel
theorem dX7_six_445 : decode cX7_six 445 = .ok (.ifCond .ne 22, 3) := by decide +kernel
theorem dX7_six_448 : decode cX7_six 448 = .ok (.aload_n 0, 1) := by decide +kernel
theorem dX7_six_449 : decode cX7_six 449 = .ok (.aload_n 0, 1) := by decide +kernel
theorem dX7_six_450 : decode cX7_six 450 = .ok (.getfield 331, 3) := by decide +kernel
theorem dX7_six_453 : decode cX7_six 453 = .ok (.iconst 1, 1) := by decide +kernel
theorem dX7_six_454 : decode cX7_six 454 = .ok (.iadd, 1) := by decide +kernel
theorem dX7_six_455 : decode cX7_six 455 = .ok (.ldc 107, 2) := by decide +kernel
theorem dX7_six_457 : decode cX7_six 457 = .ok (.iand, 1) := by decide +kernel
theorem dX7_six_458 : decode cX7_six 458 = .ok (.putfield 331, 3) := by decide +kernel
theorem dX7_six_461 : decode cX7_six 461 = .ok (.aload_n 0, 1) := by decide +kernel
theorem dX7_six_462 : decode cX7_six 462 = .ok (.getfield 331, 3) := by decide +kernel
theorem dX7_six_465 : decode cX7_six 465 = .ok (.istore 9, 2) := by decide +kernel
theorem dX7_six_467 : decode cX7_six 467 = .ok (.iload 8, 2) := by decide +kernel
theorem dX7_six_469 : decode cX7_six 469 = .ok (.ifCond .ne 22, 3) := by decide +kernel
theorem dX7_six_472 : decode cX7_six 472 = .ok (.iload 7, 2) := by decide +kernel
theorem dX7_six_474 : decode cX7_six 474 = .ok (.aload_n 0, 1) := by decide +kernel
theorem dX7_six_475 : decode cX7_six 475 = .ok (.getfield 35, 3) := by decide +kernel
theorem dX7_six_478 : decode cX7_six 478 = .ok (.if_icmp .le 13, 3) := by decide +kernel
theorem dX7_six_481 : decode cX7_six 481 = .ok (.aload_n 0, 1) := by decide +kernel
theorem dX7_six_482 : decode cX7_six 482 = .ok (.getfield 35, 3) := by decide +kernel
theorem dX7_six_485 : decode cX7_six 485 = .ok (.bipush 20, 2) := by decide +kernel
theorem dX7_six_487 : decode cX7_six 487 = .ok (.isub, 1) := by decide +kernel
theorem dX7_six_488 : decode cX7_six 488 = .ok (.goto 7, 3) := by decide +kernel
theorem dX7_six_491 : decode cX7_six 491 = .ok (.aload_n 0, 1) := by decide +kernel
theorem dX7_six_492 : decode cX7_six 492 = .ok (.getfield 134, 3) := by decide +kernel
theorem dX7_six_495 : decode cX7_six 495 = .ok (.istore 10, 2) := by decide +kernel
theorem dX7_six_497 : decode cX7_six 497 = .ok (.iconst 0, 1) := by decide +kernel
theorem dX7_six_498 : decode cX7_six 498 = .ok (.istore 11, 2) := by decide +kernel
theorem dX7_six_500 : decode cX7_six 500 = .ok (.aload_n 0, 1) := by decide +kernel
theorem dX7_six_501 : decode cX7_six 501 = .ok (.getfield 134, 3) := by decide +kernel
theorem dX7_six_504 : decode cX7_six 504 = .ok (.iload 11, 2) := by decide +kernel
theorem dX7_six_506 : decode cX7_six 506 = .ok (.isub, 1) := by decide +kernel
theorem dX7_six_507 : decode cX7_six 507 = .ok (.iload 10, 2) := by decide +kernel
theorem dX7_six_509 : decode cX7_six 509 = .ok (.if_icmp .gt 13, 3) := by decide +kernel
theorem dX7_six_512 : decode cX7_six 512 = .ok (.aload_n 0, 1) := by decide +kernel
theorem dX7_six_513 : decode cX7_six 513 = .ok (.getfield 134, 3) := by decide +kernel
theorem dX7_six_516 : decode cX7_six 516 = .ok (.iload 11, 2) := by decide +kernel
theorem dX7_six_518 : decode cX7_six 518 = .ok (.isub, 1) := by decide +kernel
theorem dX7_six_519 : decode cX7_six 519 = .ok (.goto 11, 3) := by decide +kernel
theorem dX7_six_522 : decode cX7_six 522 = .ok (.iload 10, 2) := by decide +kernel
theorem dX7_six_524 : decode cX7_six 524 = .ok (.bipush 8, 2) := by decide +kernel
theorem dX7_six_526 : decode cX7_six 526 = .ok (.idiv, 1) := by decide +kernel
theorem dX7_six_527 : decode cX7_six 527 = .ok (.bipush 8, 2) := by decide +kernel
theorem dX7_six_529 : decode cX7_six 529 = .ok (.imul, 1) := by decide +kernel
theorem dX7_six_530 : decode cX7_six 530 = .ok (.istore 12, 2) := by decide +kernel
theorem dX7_six_532 : decode cX7_six 532 = .ok (.aload_n 0, 1) := by decide +kernel
theorem dX7_six_533 : decode cX7_six 533 = .ok (.bipush 20, 2) := by decide +kernel
theorem dX7_six_535 : decode cX7_six 535 = .ok (.iload 12, 2) := by decide +kernel
theorem dX7_six_537 : decode cX7_six 537 = .ok (.iadd, 1) := by decide +kernel
theorem dX7_six_538 : decode cX7_six 538 = .ok (.invokevirtual 217, 3) := by decide +kernel
theorem dX7_six_541 : decode cX7_six 541 = .ok (.istore 13, 2) := by decide +kernel
theorem dX7_six_543 : decode cX7_six 543 = .ok (.aload_n 0, 1) := by decide +kernel
theorem dX7_six_544 : decode cX7_six 544 = .ok (.iload 13, 2) := by decide +kernel
theorem dX7_six_546 : decode cX7_six 546 = .ok (.aload_n 0, 1) := by decide +kernel
theorem dX7_six_547 : decode cX7_six 547 = .ok (.iconst 0, 1) := by decide +kernel
theorem dX7_six_548 : decode cX7_six 548 = .ok (.invokevirtual 334, 3) := by decide +kernel
theorem dX7_six_551 : decode cX7_six 551 = .ok (.bipush 20, 2) := by decide +kernel
theorem dX7_six_553 : decode cX7_six 553 = .ok (.iload 12, 2) := by decide +kernel
theorem dX7_six_555 : decode cX7_six 555 = .ok (.iadd, 1) := by decide +kernel
theorem dX7_six_556 : decode cX7_six 556 = .ok (.iload 9, 2) := by decide +kernel
theorem dX7_six_558 : decode cX7_six 558 = .ok (.iload 8, 2) := by decide +kernel
theorem dX7_six_560 : decode cX7_six 560 = .ok (.aload_n 0, 1) := by decide +kernel
theorem dX7_six_561 : decode cX7_six 561 = .ok (.getfield 191, 3) := by decide +kernel
theorem dX7_six_564 : decode cX7_six 564 = .ok (.iload 11, 2) := by decide +kernel
theorem dX7_six_566 : decode cX7_six 566 = .ok (.iadd, 1) := by decide +kernel
theorem dX7_six_567 : decode cX7_six 567 = .ok (.iload 11, 2) := by decide +kernel
theorem dX7_six_569 : decode cX7_six 569 = .ok (.iload 12, 2) := by decide +kernel
theorem dX7_six_571 : decode cX7_six 571 = .ok (.iadd, 1) := by decide +kernel
theorem dX7_six_572 : decode cX7_six 572 = .ok (.aload_n 0, 1) := by decide +kernel
theorem dX7_six_573 : decode cX7_six 573 = .ok (.getfield 134, 3) := by decide +kernel
theorem dX7_six_576 : decode cX7_six 576 = .ok (.if_icmp .lt 10, 3) := by decide +kernel
theorem dX7_six_579 : decode cX7_six 579 = .ok (.aload_n 0, 1) := by decide +kernel
theorem dX7_six_580 : decode cX7_six 580 = .ok (.getfield 194, 3) := by decide +kernel
theorem dX7_six_583 : decode cX7_six 583 = .ok (.ifCond .eq 7, 3) := by decide +kernel
theorem dX7_six_586 : decode cX7_six 586 = .ok (.iconst 1, 1) := by decide +kernel
theorem dX7_six_587 : decode cX7_six 587 = .ok (.goto 4, 3) := by decide +kernel
theorem dX7_six_590 : decode cX7_six 590 = .ok (.iconst 0, 1) := by decide +kernel
theorem dX7_six_591 : decode cX7_six 591 = .ok (.iload_n 3, 1) := by decide +kernel
theorem dX7_six_592 : decode cX7_six 592 = .ok (.iconst 1, 1) := by decide +kernel
theorem dX7_six_593 : decode cX7_six 593 = .ok (.isub, 1) := by decide +kernel
theorem dX7_six_594 : decode cX7_six 594 = .ok (.invokevirtual 337, 3) := by decide +kernel
theorem dX7_six_597 : decode cX7_six 597 = .ok (.iconst 0, 1) := by decide +kernel
theorem dX7_six_598 : decode cX7_six 598 = .ok (.istore 14, 2) := by decide +kernel
theorem dX7_six_600 : decode cX7_six 600 = .ok (.iload 14, 2) := by decide +kernel
theorem dX7_six_602 : decode cX7_six 602 = .ok (.iload 12, 2) := by decide +kernel
theorem dX7_six_604 : decode cX7_six 604 = .ok (.if_icmp .ge 34, 3) := by decide +kernel
theorem dX7_six_607 : decode cX7_six 607 = .ok (.aload_n 0, 1) := by decide +kernel
theorem dX7_six_608 : decode cX7_six 608 = .ok (.getfield 52, 3) := by decide +kernel
theorem dX7_six_611 : decode cX7_six 611 = .ok (.aload_n 0, 1) := by decide +kernel
theorem dX7_six_612 : decode cX7_six 612 = .ok (.getfield 128, 3) := by decide +kernel
theorem dX7_six_615 : decode cX7_six 615 = .ok (.iload 12, 2) := by decide +kernel
theorem dX7_six_617 : decode cX7_six 617 = .ok (.isub, 1) := by decide +kernel
theorem dX7_six_618 : decode cX7_six 618 = .ok (.iload 14, 2) := by decide +kernel
theorem dX7_six_620 : decode cX7_six 620 = .ok (.iadd, 1) := by decide +kernel
theorem dX7_six_621 : decode cX7_six 621 = .ok (.aload_n 0, 1) := by decide +kernel
theorem dX7_six_622 : decode cX7_six 622 = .ok (.getfield 58, 3) := by decide +kernel
theorem dX7_six_625 : decode cX7_six 625 = .ok (.iload 11, 2) := by decide +kernel
theorem dX7_six_627 : decode cX7_six 627 = .ok (.iload 14, 2) := by decide +kernel
theorem dX7_six_629 : decode cX7_six 629 = .ok (.iadd, 1) := by decide +kernel
theorem dX7_six_630 : decode cX7_six 630 = .ok (.baload, 1) := by decide +kernel
theorem dX7_six_631 : decode cX7_six 631 = .ok (.bastore, 1) := by decide +kernel
theorem dX7_six_632 : decode cX7_six 632 = .ok (.iinc 14 1, 3) := by decide +kernel
theorem dX7_six_635 : decode cX7_six 635 = .ok (.goto (-35), 3) := by decide +kernel
theorem dX7_six_638 : decode cX7_six 638 = .ok (.aload_n 0, 1) := by decide +kernel
theorem dX7_six_639 : decode cX7_six 639 = .ok (.invokevirtual 223, 3) := by decide +kernel
theorem dX7_six_642 : decode cX7_six 642 = .ok (.iload 11, 2) := by decide +kernel
theorem dX7_six_644 : decode cX7_six 644 = .ok (.iload 12, 2) := by decide +kernel
theorem dX7_six_646 : decode cX7_six 646 = .ok (.iadd, 1) := by decide +kernel
theorem dX7_six_647 : decode cX7_six 647 = .ok (.istore 11, 2) := by decide +kernel
theorem dX7_six_649 : decode cX7_six 649 = .ok (.iload 11, 2) := by decide +kernel
theorem dX7_six_651 : decode cX7_six 651 = .ok (.aload_n 0, 1) := by decide +kernel
theorem dX7_six_652 : decode cX7_six 652 = .ok (.getfield 134, 3) := by decide +kernel
theorem dX7_six_655 : decode cX7_six 655 = .ok (.if_icmp .lt (-155), 3) := by decide +kernel
theorem dX7_six_658 : decode cX7_six 658 = .ok (.aload_n 0, 1) := by decide +kernel
theorem dX7_six_659 : decode cX7_six 659 = .ok (.iconst 0, 1) := by decide +kernel
theorem dX7_six_660 : decode cX7_six 660 = .ok (.invokevirtual 213, 3) := by decide +kernel
theorem dX7_six_663 : decode cX7_six 663 = .ok (.ireturn, 1) := by decide +kernel
theorem dX7_class6_0 : decode cX7_class6 0 = .ok (.aload_n 0, 1) := by decide +kernel
theorem dX7_class6_1 : decode cX7_class6 1 = .ok (.getfield 7, 3) := by decide +kernel
theorem dX7_class6_4 : decode cX7_class6 4 = .ok (.iload_n 1, 1) := by decide +kernel
theorem dX7_class6_5 : decode cX7_class6 5 = .ok (.invokestatic 118, 3) := by decide +kernel
theorem dX7_class6_8 : decode cX7_class6 8 = .ok (.bipush 20, 2) := by decide +kernel
theorem dX7_class6_10 : decode cX7_class6 10 = .ok (.ishr, 1) := by decide +kernel
theorem dX7_class6_11 : decode cX7_class6 11 = .ok (.sipush 255, 3) := by decide +kernel
theorem dX7_class6_14 : decode cX7_class6 14 = .ok (.iand, 1) := by decide +kernel
theorem dX7_class6_15 : decode cX7_class6 15 = .ok (.ireturn, 1) := by decide +kernel
theorem dX7_head4_0 : decode cX7_head4 0 = .ok (.aload_n 0, 1) := by decide +kernel
theorem dX7_head4_1 : decode cX7_head4 1 = .ok (.getfield 52, 3) := by decide +kernel
theorem dX7_head4_4 : decode cX7_head4 4 = .ok (.iload_n 1, 1) := by decide +kernel
theorem dX7_head4_5 : decode cX7_head4 5 = .ok (.bipush 69, 2) := by decide +kernel
theorem dX7_head4_7 : decode cX7_head4 7 = .ok (.bastore, 1) := by decide +kernel
theorem dX7_head4_8 : decode cX7_head4 8 = .ok (.aload_n 0, 1) := by decide +kernel
theorem dX7_head4_9 : decode cX7_head4 9 = .ok (.getfield 52, 3) := by decide +kernel
theorem dX7_head4_12 : decode cX7_head4 12 = .ok (.iload_n 1, 1) := by decide +kernel
theorem dX7_head4_13 : decode cX7_head4 13 = .ok (.iconst 1, 1) := by decide +kernel
theorem dX7_head4_14 : decode cX7_head4 14 = .ok (.iadd, 1) := by decide +kernel
theorem dX7_head4_15 : decode cX7_head4 15 = .ok (.aload_n 0, 1) := by decide +kernel
theorem dX7_head4_16 : decode cX7_head4 16 = .ok (.getfield 41, 3) := by decide +kernel
theorem dX7_head4_19 : decode cX7_head4 19 = .ok (.ifCond .eq 7, 3) := by decide +kernel
theorem dX7_head4_22 : decode cX7_head4 22 = .ok (.iload_n 2, 1) := by decide +kernel
theorem dX7_head4_23 : decode cX7_head4 23 = .ok (.goto 4, 3) := by decide +kernel
theorem dX7_head4_26 : decode cX7_head4 26 = .ok (.iconst 0, 1) := by decide +kernel
theorem dX7_head4_27 : decode cX7_head4 27 = .ok (.i2b, 1) := by decide +kernel
theorem dX7_head4_28 : decode cX7_head4 28 = .ok (.bastore, 1) := by decide +kernel
theorem dX7_head4_29 : decode cX7_head4 29 = .ok (.aload_n 0, 1) := by decide +kernel
theorem dX7_head4_30 : decode cX7_head4 30 = .ok (.getfield 52, 3) := by decide +kernel
theorem dX7_head4_33 : decode cX7_head4 33 = .ok (.iload_n 1, 1) := by decide +kernel
theorem dX7_head4_34 : decode cX7_head4 34 = .ok (.iconst 2, 1) := by decide +kernel
theorem dX7_head4_35 : decode cX7_head4 35 = .ok (.iadd, 1) := by decide +kernel
theorem dX7_head4_36 : decode cX7_head4 36 = .ok (.iload_n 3, 1) := by decide +kernel
theorem dX7_head4_37 : decode cX7_head4 37 = .ok (.invokestatic 121, 3) := by decide +kernel
theorem dX7_head4_40 : decode cX7_head4 40 = .ok (.aload_n 0, 1) := by decide +kernel
theorem dX7_head4_41 : decode cX7_head4 41 = .ok (.getfield 52, 3) := by decide +kernel
theorem dX7_head4_44 : decode cX7_head4 44 = .ok (.iload_n 1, 1) := by decide +kernel
theorem dX7_head4_45 : decode cX7_head4 45 = .ok (.iconst 4, 1) := by decide +kernel
theorem dX7_head4_46 : decode cX7_head4 46 = .ok (.iadd, 1) := by decide +kernel
theorem dX7_head4_47 : decode cX7_head4 47 = .ok (.iload 4, 2) := by decide +kernel
theorem dX7_head4_49 : decode cX7_head4 49 = .ok (.invokestatic 121, 3) := by decide +kernel
theorem dX7_head4_52 : decode cX7_head4 52 = .ok (.aload_n 0, 1) := by decide +kernel
theorem dX7_head4_53 : decode cX7_head4 53 = .ok (.getfield 52, 3) := by decide +kernel
theorem dX7_head4_56 : decode cX7_head4 56 = .ok (.iload_n 1, 1) := by decide +kernel
theorem dX7_head4_57 : decode cX7_head4 57 = .ok (.bipush 6, 2) := by decide +kernel
theorem dX7_head4_59 : decode cX7_head4 59 = .ok (.iadd, 1) := by decide +kernel
theorem dX7_head4_60 : decode cX7_head4 60 = .ok (.iload 5, 2) := by decide +kernel
theorem dX7_head4_62 : decode cX7_head4 62 = .ok (.ifCond .eq 9, 3) := by decide +kernel
theorem dX7_head4_65 : decode cX7_head4 65 = .ok (.sipush 16384, 3) := by decide +kernel
theorem dX7_head4_68 : decode cX7_head4 68 = .ok (.goto 4, 3) := by decide +kernel
theorem dX7_head4_71 : decode cX7_head4 71 = .ok (.iconst 0, 1) := by decide +kernel
theorem dX7_head4_72 : decode cX7_head4 72 = .ok (.iload 7, 2) := by decide +kernel
theorem dX7_head4_74 : decode cX7_head4 74 = .ok (.ifCond .eq 9, 3) := by decide +kernel
theorem dX7_head4_77 : decode cX7_head4 77 = .ok (.sipush 8192, 3) := by decide +kernel
theorem dX7_head4_80 : decode cX7_head4 80 = .ok (.goto 4, 3) := by decide +kernel
theorem dX7_head4_83 : decode cX7_head4 83 = .ok (.iconst 0, 1) := by decide +kernel
theorem dX7_head4_84 : decode cX7_head4 84 = .ok (.ior, 1) := by decide +kernel
theorem dX7_head4_85 : decode cX7_head4 85 = .ok (.iload 6, 2) := by decide +kernel
theorem dX7_head4_87 : decode cX7_head4 87 = .ok (.bipush 8, 2) := by decide +kernel
theorem dX7_head4_89 : decode cX7_head4 89 = .ok (.idiv, 1) := by decide +kernel
theorem dX7_head4_90 : decode cX7_head4 90 = .ok (.ior, 1) := by decide +kernel
theorem dX7_head4_91 : decode cX7_head4 91 = .ok (.invokestatic 121, 3) := by decide +kernel
theorem dX7_head4_94 : decode cX7_head4 94 = .ok (.aload_n 0, 1) := by decide +kernel
theorem dX7_head4_95 : decode cX7_head4 95 = .ok (.getfield 52, 3) := by decide +kernel
theorem dX7_head4_98 : decode cX7_head4 98 = .ok (.iload_n 1, 1) := by decide +kernel
theorem dX7_head4_99 : decode cX7_head4 99 = .ok (.bipush 8, 2) := by decide +kernel
theorem dX7_head4_101 : decode cX7_head4 101 = .ok (.iadd, 1) := by decide +kernel
theorem dX7_head4_102 : decode cX7_head4 102 = .ok (.iload 8, 2) := by decide +kernel
theorem dX7_head4_104 : decode cX7_head4 104 = .ok (.i2b, 1) := by decide +kernel
theorem dX7_head4_105 : decode cX7_head4 105 = .ok (.bastore, 1) := by decide +kernel
theorem dX7_head4_106 : decode cX7_head4 106 = .ok (.aload_n 0, 1) := by decide +kernel
theorem dX7_head4_107 : decode cX7_head4 107 = .ok (.getfield 52, 3) := by decide +kernel
theorem dX7_head4_110 : decode cX7_head4 110 = .ok (.iload_n 1, 1) := by decide +kernel
theorem dX7_head4_111 : decode cX7_head4 111 = .ok (.bipush 9, 2) := by decide +kernel
theorem dX7_head4_113 : decode cX7_head4 113 = .ok (.iadd, 1) := by decide +kernel
theorem dX7_head4_114 : decode cX7_head4 114 = .ok (.aload_n 0, 1) := by decide +kernel
theorem dX7_head4_115 : decode cX7_head4 115 = .ok (.getfield 197, 3) := by decide +kernel
theorem dX7_head4_118 : decode cX7_head4 118 = .ok (.bipush 58, 2) := by decide +kernel
theorem dX7_head4_120 : decode cX7_head4 120 = .ok (.if_icmp .ne 7, 3) := by decide +kernel
theorem dX7_head4_123 : decode cX7_head4 123 = .ok (.iconst 1, 1) := by decide +kernel
theorem dX7_head4_124 : decode cX7_head4 124 = .ok (.goto 7, 3) := by decide +kernel
theorem dX7_head4_127 : decode cX7_head4 127 = .ok (.aload_n 0, 1) := by decide +kernel
theorem dX7_head4_128 : decode cX7_head4 128 = .ok (.getfield 197, 3) := by decide +kernel
theorem dX7_head4_131 : decode cX7_head4 131 = .ok (.i2b, 1) := by decide +kernel
theorem dX7_head4_132 : decode cX7_head4 132 = .ok (.bastore, 1) := by decide +kernel
theorem dX7_head4_133 : decode cX7_head4 133 = .ok (.aload_n 0, 1) := by decide +kernel
theorem dX7_head4_134 : decode cX7_head4 134 = .ok (.getfield 52, 3) := by decide +kernel
theorem dX7_head4_137 : decode cX7_head4 137 = .ok (.iload_n 1, 1) := by decide +kernel
theorem dX7_head4_138 : decode cX7_head4 138 = .ok (.bipush 12, 2) := by decide +kernel
theorem dX7_head4_140 : decode cX7_head4 140 = .ok (.iadd, 1) := by decide +kernel
theorem dX7_head4_141 : decode cX7_head4 141 = .ok (.aload_n 0, 1) := by decide +kernel
theorem dX7_head4_142 : decode cX7_head4 142 = .ok (.getfield 137, 3) := by decide +kernel
theorem dX7_head4_145 : decode cX7_head4 145 = .ok (.invokestatic 125, 3) := by decide +kernel
theorem dX7_head4_148 : decode cX7_head4 148 = .ok (.aload_n 0, 1) := by decide +kernel
theorem dX7_head4_149 : decode cX7_head4 149 = .ok (.getfield 52, 3) := by decide +kernel
theorem dX7_head4_152 : decode cX7_head4 152 = .ok (.iload_n 1, 1) := by decide +kernel
theorem dX7_head4_153 : decode cX7_head4 153 = .ok (.bipush 16, 2) := by decide +kernel
theorem dX7_head4_155 : decode cX7_head4 155 = .ok (.iadd, 1) := by decide +kernel
theorem dX7_head4_156 : decode cX7_head4 156 = .ok (.aload_n 0, 1) := by decide +kernel
theorem dX7_head4_157 : decode cX7_head4 157 = .ok (.getfield 140, 3) := by decide +kernel
theorem dX7_head4_160 : decode cX7_head4 160 = .ok (.invokestatic 125, 3) := by decide +kernel
theorem dX7_head4_163 : decode cX7_head4 163 = .ok (.aload_n 0, 1) := by decide +kernel
theorem dX7_head4_164 : decode cX7_head4 164 = .ok (.iload_n 1, 1) := by decide +kernel
theorem dX7_head4_165 : decode cX7_head4 165 = .ok (.invokevirtual 220, 3) := by decide +kernel
theorem dX7_head4_168 : decode cX7_head4 168 = .ok (.return_, 1) := by decide +kernel
theorem dX7_toFour_0 : decode cX7_toFour 0 = .ok (.aload_n 0, 1) := by decide +kernel
theorem dX7_toFour_1 : decode cX7_toFour 1 = .ok (.getfield 58, 3) := by decide +kernel
theorem dX7_toFour_4 : decode cX7_toFour 4 = .ok (.iconst 0, 1) := by decide +kernel
theorem dX7_toFour_5 : decode cX7_toFour 5 = .ok (.invokestatic 111, 3) := by decide +kernel
theorem dX7_toFour_8 : decode cX7_toFour 8 = .ok (.istore_n 2, 1) := by decide +kernel
theorem dX7_toFour_9 : decode cX7_toFour 9 = .ok (.iload_n 2, 1) := by decide +kernel
theorem dX7_toFour_10 : decode cX7_toFour 10 = .ok (.sipush 128, 3) := by decide +kernel
theorem dX7_toFour_13 : decode cX7_toFour 13 = .ok (.if_icmp .eq 10, 3) := by decide +kernel
theorem dX7_toFour_16 : decode cX7_toFour 16 = .ok (.iload_n 2, 1) := by decide +kernel
theorem dX7_toFour_17 : decode cX7_toFour 17 = .ok (.sipush 129, 3) := by decide +kernel
theorem dX7_toFour_20 : decode cX7_toFour 20 = .ok (.if_icmp .ne 16, 3) := by decide +kernel
theorem dX7_toFour_23 : decode cX7_toFour 23 = .ok (.aload_n 0, 1) := by decide +kernel
theorem dX7_toFour_24 : decode cX7_toFour 24 = .ok (.aload_n 0, 1) := by decide +kernel
theorem dX7_toFour_25 : decode cX7_toFour 25 = .ok (.getfield 58, 3) := by decide +kernel
theorem dX7_toFour_28 : decode cX7_toFour 28 = .ok (.iconst 0, 1) := by decide +kernel
theorem dX7_toFour_29 : decode cX7_toFour 29 = .ok (.iload_n 1, 1) := by decide +kernel
theorem dX7_toFour_30 : decode cX7_toFour 30 = .ok (.iconst 0, 1) := by decide +kernel
theorem dX7_toFour_31 : decode cX7_toFour 31 = .ok (.invokevirtual 278, 3) := by decide +kernel
theorem dX7_toFour_34 : decode cX7_toFour 34 = .ok (.iconst 0, 1) := by decide +kernel
theorem dX7_toFour_35 : decode cX7_toFour 35 = .ok (.ireturn, 1) := by decide +kernel
theorem dX7_toFour_36 : decode cX7_toFour 36 = .ok (.iload_n 2, 1) := by decide +kernel
theorem dX7_toFour_37 : decode cX7_toFour 37 = .ok (.iconst 1, 1) := by decide +kernel
theorem dX7_toFour_38 : decode cX7_toFour 38 = .ok (.if_icmp .lt 8, 3) := by decide +kernel
theorem dX7_toFour_41 : decode cX7_toFour 41 = .ok (.iload_n 2, 1) := by decide +kernel
theorem dX7_toFour_42 : decode cX7_toFour 42 = .ok (.iconst 4, 1) := by decide +kernel
theorem dX7_toFour_43 : decode cX7_toFour 43 = .ok (.if_icmp .le 6, 3) := by decide +kernel
theorem dX7_toFour_46 : decode cX7_toFour 46 = .ok (.bipush 6, 2) := by decide +kernel
theorem dX7_toFour_48 : decode cX7_toFour 48 = .ok (.ireturn, 1) := by decide +kernel
theorem dX7_toFour_49 : decode cX7_toFour 49 = .ok (.aload_n 0, 1) := by decide +kernel
theorem dX7_toFour_50 : decode cX7_toFour 50 = .ok (.lconst 0, 1) := by decide +kernel
theorem dX7_toFour_51 : decode cX7_toFour 51 = .ok (.putfield 102, 3) := by decide +kernel
theorem dX7_toFour_54 : decode cX7_toFour 54 = .ok (.aload_n 0, 1) := by decide +kernel
theorem dX7_toFour_55 : decode cX7_toFour 55 = .ok (.iload_n 1, 1) := by decide +kernel
theorem dX7_toFour_56 : decode cX7_toFour 56 = .ok (.bipush 58, 2) := by decide +kernel
theorem dX7_toFour_58 : decode cX7_toFour 58 = .ok (.iconst 0, 1) := by decide +kernel
theorem dX7_toFour_59 : decode cX7_toFour 59 = .ok (.invokevirtual 181, 3) := by decide +kernel
theorem dX7_toFour_62 : decode cX7_toFour 62 = .ok (.aload_n 0, 1) := by decide +kernel
theorem dX7_toFour_63 : decode cX7_toFour 63 = .ok (.aload_n 0, 1) := by decide +kernel
theorem dX7_toFour_64 : decode cX7_toFour 64 = .ok (.getfield 58, 3) := by decide +kernel
theorem dX7_toFour_67 : decode cX7_toFour 67 = .ok (.iconst 0, 1) := by decide +kernel
theorem dX7_toFour_68 : decode cX7_toFour 68 = .ok (.iload_n 1, 1) := by decide +kernel
theorem dX7_toFour_69 : decode cX7_toFour 69 = .ok (.invokevirtual 206, 3) := by decide +kernel
theorem dX7_toFour_72 : decode cX7_toFour 72 = .ok (.aload_n 0, 1) := by decide +kernel
theorem dX7_toFour_73 : decode cX7_toFour 73 = .ok (.getfield 102, 3) := by decide +kernel
theorem dX7_toFour_76 : decode cX7_toFour 76 = .ok (.ldc2_w 105, 3) := by decide +kernel
theorem dX7_toFour_79 : decode cX7_toFour 79 = .ok (.lcmp, 1) := by decide +kernel
theorem dX7_toFour_80 : decode cX7_toFour 80 = .ok (.ifCond .eq 5, 3) := by decide +kernel
theorem dX7_toFour_83 : decode cX7_toFour 83 = .ok (.iconst 4, 1) := by decide +kernel
theorem dX7_toFour_84 : decode cX7_toFour 84 = .ok (.ireturn, 1) := by decide +kernel
theorem dX7_toFour_85 : decode cX7_toFour 85 = .ok (.aload_n 0, 1) := by decide +kernel
theorem dX7_toFour_86 : decode cX7_toFour 86 = .ok (.iload_n 2, 1) := by decide +kernel
theorem dX7_toFour_87 : decode cX7_toFour 87 = .ok (.aload_n 0, 1) := by decide +kernel
