theorem dX0_init_0 : decode cX0_init 0 = .ok (.aload_n 0, 1) := by decide +kernel
theorem dX0_init_1 : decode cX0_init 1 = .ok (.invokespecial 3, 3) := by decide +kernel
theorem dX0_init_4 : decode cX0_init 4 = .ok (.return_, 1) := by decide +kernel
theorem dX0_readWhole_0 : decode cX0_readWhole 0 = .ok (.aload_n 0, 1) := by decide +kernel
theorem dX0_readWhole_1 : decode cX0_readWhole 1 = .ok (.aload_n 1, 1) := by decide +kernel
theorem dX0_readWhole_2 : decode cX0_readWhole 2 = .ok (.iconst 0, 1) := by decide +kernel
theorem dX0_readWhole_3 : decode cX0_readWhole 3 = .ok (.aload_n 1, 1) := by decide +kernel
theorem dX0_readWhole_4 : decode cX0_readWhole 4 = .ok (.getfield 9, 3) := by decide +kernel
theorem dX0_readWhole_7 : decode cX0_readWhole 7 = .ok (.invokevirtual 15, 3) := by decide +kernel
theorem dX0_readWhole_10 : decode cX0_readWhole 10 = .ok (.ifCond .eq 50, 3) := by decide +kernel
theorem dX0_readWhole_13 : decode cX0_readWhole 13 = .ok (.aload_n 0, 1) := by decide +kernel
theorem dX0_readWhole_14 : decode cX0_readWhole 14 = .ok (.getfield 21, 3) := by decide +kernel
theorem dX0_readWhole_17 : decode cX0_readWhole 17 = .ok (.aload_n 1, 1) := by decide +kernel
theorem dX0_readWhole_18 : decode cX0_readWhole 18 = .ok (.getfield 9, 3) := by decide +kernel
theorem dX0_readWhole_21 : decode cX0_readWhole 21 = .ok (.if_icmp .gt 39, 3) := by decide +kernel
theorem dX0_readWhole_24 : decode cX0_readWhole 24 = .ok (.aload_n 1, 1) := by decide +kernel
theorem dX0_readWhole_25 : decode cX0_readWhole 25 = .ok (.iconst 0, 1) := by decide +kernel
theorem dX0_readWhole_26 : decode cX0_readWhole 26 = .ok (.aload_n 0, 1) := by decide +kernel
theorem dX0_readWhole_27 : decode cX0_readWhole 27 = .ok (.getfield 24, 3) := by decide +kernel
theorem dX0_readWhole_30 : decode cX0_readWhole 30 = .ok (.invokevirtual 27, 3) := by decide +kernel
theorem dX0_readWhole_33 : decode cX0_readWhole 33 = .ok (.invokestatic 31, 3) := by decide +kernel
theorem dX0_readWhole_36 : decode cX0_readWhole 36 = .ok (.ldc 35, 2) := by decide +kernel
theorem dX0_readWhole_38 : decode cX0_readWhole 38 = .ok (.if_icmp .ne 22, 3) := by decide +kernel
theorem dX0_readWhole_41 : decode cX0_readWhole 41 = .ok (.aload_n 0, 1) := by decide +kernel
theorem dX0_readWhole_42 : decode cX0_readWhole 42 = .ok (.aload_n 1, 1) := by decide +kernel
theorem dX0_readWhole_43 : decode cX0_readWhole 43 = .ok (.invokevirtual 36, 3) := by decide +kernel
theorem dX0_readWhole_46 : decode cX0_readWhole 46 = .ok (.ifCond .eq 14, 3) := by decide +kernel
theorem dX0_readWhole_49 : decode cX0_readWhole 49 = .ok (.aload_n 0, 1) := by decide +kernel
theorem dX0_readWhole_50 : decode cX0_readWhole 50 = .ok (.invokevirtual 40, 3) := by decide +kernel
theorem dX0_readWhole_53 : decode cX0_readWhole 53 = .ok (.ifCond .ne 7, 3) := by decide +kernel
theorem dX0_readWhole_56 : decode cX0_readWhole 56 = .ok (.iconst 1, 1) := by decide +kernel
theorem dX0_readWhole_57 : decode cX0_readWhole 57 = .ok (.goto 4, 3) := by decide +kernel
theorem dX0_readWhole_60 : decode cX0_readWhole 60 = .ok (.iconst 0, 1) := by decide +kernel
theorem dX0_readWhole_61 : decode cX0_readWhole 61 = .ok (.ireturn, 1) := by decide +kernel
theorem dX0_read_0 : decode cX0_read 0 = .ok (.aload_n 1, 1) := by decide +kernel
theorem dX0_read_1 : decode cX0_read 1 = .ok (.iload_n 2, 1) := by decide +kernel
theorem dX0_read_2 : decode cX0_read 2 = .ok (.invokevirtual 44, 3) := by decide +kernel
theorem dX0_read_5 : decode cX0_read 5 = .ok (.istore 4, 2) := by decide +kernel
theorem dX0_read_7 : decode cX0_read 7 = .ok (.aload_n 0, 1) := by decide +kernel
theorem dX0_read_8 : decode cX0_read 8 = .ok (.iload 4, 2) := by decide +kernel
theorem dX0_read_10 : decode cX0_read 10 = .ok (.bipush 15, 2) := by decide +kernel
theorem dX0_read_12 : decode cX0_read 12 = .ok (.iand, 1) := by decide +kernel
theorem dX0_read_13 : decode cX0_read 13 = .ok (.iconst 4, 1) := by decide +kernel
theorem dX0_read_14 : decode cX0_read 14 = .ok (.imul, 1) := by decide +kernel
theorem dX0_read_15 : decode cX0_read 15 = .ok (.putfield 24, 3) := by decide +kernel
theorem dX0_read_18 : decode cX0_read 18 = .ok (.aload_n 0, 1) := by decide +kernel
theorem dX0_read_19 : decode cX0_read 19 = .ok (.aload_n 1, 1) := by decide +kernel
theorem dX0_read_20 : decode cX0_read 20 = .ok (.iload_n 2, 1) := by decide +kernel
theorem dX0_read_21 : decode cX0_read 21 = .ok (.iconst 2, 1) := by decide +kernel
theorem dX0_read_22 : decode cX0_read 22 = .ok (.iadd, 1) := by decide +kernel
theorem dX0_read_23 : decode cX0_read 23 = .ok (.invokevirtual 48, 3) := by decide +kernel
theorem dX0_read_26 : decode cX0_read 26 = .ok (.putfield 21, 3) := by decide +kernel
theorem dX0_read_29 : decode cX0_read 29 = .ok (.iload_n 3, 1) := by decide +kernel
theorem dX0_read_30 : decode cX0_read 30 = .ok (.iload_n 2, 1) := by decide +kernel
theorem dX0_read_31 : decode cX0_read 31 = .ok (.isub, 1) := by decide +kernel
theorem dX0_read_32 : decode cX0_read 32 = .ok (.bipush 20, 2) := by decide +kernel
theorem dX0_read_34 : decode cX0_read 34 = .ok (.if_icmp .lt 17, 3) := by decide +kernel
theorem dX0_read_37 : decode cX0_read 37 = .ok (.iload_n 3, 1) := by decide +kernel
theorem dX0_read_38 : decode cX0_read 38 = .ok (.iload_n 2, 1) := by decide +kernel
theorem dX0_read_39 : decode cX0_read 39 = .ok (.isub, 1) := by decide +kernel
theorem dX0_read_40 : decode cX0_read 40 = .ok (.aload_n 0, 1) := by decide +kernel
theorem dX0_read_41 : decode cX0_read 41 = .ok (.getfield 24, 3) := by decide +kernel
theorem dX0_read_44 : decode cX0_read 44 = .ok (.if_icmp .lt 7, 3) := by decide +kernel
theorem dX0_read_47 : decode cX0_read 47 = .ok (.iconst 1, 1) := by decide +kernel
theorem dX0_read_48 : decode cX0_read 48 = .ok (.goto 4, 3) := by decide +kernel
theorem dX0_read_51 : decode cX0_read 51 = .ok (.iconst 0, 1) := by decide +kernel
theorem dX0_read_52 : decode cX0_read 52 = .ok (.istore 5, 2) := by decide +kernel
theorem dX0_read_54 : decode cX0_read 54 = .ok (.iload 5, 2) := by decide +kernel
theorem dX0_read_56 : decode cX0_read 56 = .ok (.ifCond .eq 31, 3) := by decide +kernel
theorem dX0_read_59 : decode cX0_read 59 = .ok (.iload 4, 2) := by decide +kernel
theorem dX0_read_61 : decode cX0_read 61 = .ok (.iconst 4, 1) := by decide +kernel
theorem dX0_read_62 : decode cX0_read 62 = .ok (.ishr, 1) := by decide +kernel
theorem dX0_read_63 : decode cX0_read 63 = .ok (.iconst 4, 1) := by decide +kernel
theorem dX0_read_64 : decode cX0_read 64 = .ok (.if_icmp .ne 23, 3) := by decide +kernel
theorem dX0_read_67 : decode cX0_read 67 = .ok (.aload_n 0, 1) := by decide +kernel
theorem dX0_read_68 : decode cX0_read 68 = .ok (.getfield 24, 3) := by decide +kernel
theorem dX0_read_71 : decode cX0_read 71 = .ok (.bipush 20, 2) := by decide +kernel
theorem dX0_read_73 : decode cX0_read 73 = .ok (.if_icmp .lt 14, 3) := by decide +kernel
theorem dX0_read_76 : decode cX0_read 76 = .ok (.aload_n 0, 1) := by decide +kernel
theorem dX0_read_77 : decode cX0_read 77 = .ok (.getfield 21, 3) := by decide +kernel
theorem dX0_read_80 : decode cX0_read 80 = .ok (.aload_n 0, 1) := by decide +kernel
theorem dX0_read_81 : decode cX0_read 81 = .ok (.getfield 24, 3) := by decide +kernel
theorem dX0_read_84 : decode cX0_read 84 = .ok (.if_icmp .ge 5, 3) := by decide +kernel
theorem dX0_read_87 : decode cX0_read 87 = .ok (.iconst 0, 1) := by decide +kernel
theorem dX0_read_88 : decode cX0_read 88 = .ok (.ireturn, 1) := by decide +kernel
theorem dX0_read_89 : decode cX0_read 89 = .ok (.aload_n 0, 1) := by decide +kernel
theorem dX0_read_90 : decode cX0_read 90 = .ok (.iload_n 2, 1) := by decide +kernel
theorem dX0_read_91 : decode cX0_read 91 = .ok (.putfield 51, 3) := by decide +kernel
theorem dX0_read_94 : decode cX0_read 94 = .ok (.aload_n 0, 1) := by decide +kernel
theorem dX0_read_95 : decode cX0_read 95 = .ok (.aload_n 1, 1) := by decide +kernel
theorem dX0_read_96 : decode cX0_read 96 = .ok (.iload_n 2, 1) := by decide +kernel
theorem dX0_read_97 : decode cX0_read 97 = .ok (.iconst 1, 1) := by decide +kernel
theorem dX0_read_98 : decode cX0_read 98 = .ok (.iadd, 1) := by decide +kernel
theorem dX0_read_99 : decode cX0_read 99 = .ok (.invokevirtual 44, 3) := by decide +kernel
theorem dX0_read_102 : decode cX0_read 102 = .ok (.putfield 53, 3) := by decide +kernel
theorem dX0_read_105 : decode cX0_read 105 = .ok (.aload_n 0, 1) := by decide +kernel
theorem dX0_read_106 : decode cX0_read 106 = .ok (.aload_n 1, 1) := by decide +kernel
theorem dX0_read_107 : decode cX0_read 107 = .ok (.iload_n 2, 1) := by decide +kernel
theorem dX0_read_108 : decode cX0_read 108 = .ok (.iconst 4, 1) := by decide +kernel
theorem dX0_read_109 : decode cX0_read 109 = .ok (.iadd, 1) := by decide +kernel
theorem dX0_read_110 : decode cX0_read 110 = .ok (.invokevirtual 48, 3) := by decide +kernel
theorem dX0_read_113 : decode cX0_read 113 = .ok (.putfield 56, 3) := by decide +kernel
theorem dX0_read_116 : decode cX0_read 116 = .ok (.aload_n 1, 1) := by decide +kernel
theorem dX0_read_117 : decode cX0_read 117 = .ok (.iload_n 2, 1) := by decide +kernel
theorem dX0_read_118 : decode cX0_read 118 = .ok (.bipush 6, 2) := by decide +kernel
theorem dX0_read_120 : decode cX0_read 120 = .ok (.iadd, 1) := by decide +kernel
theorem dX0_read_121 : decode cX0_read 121 = .ok (.invokevirtual 48, 3) := by decide +kernel
theorem dX0_read_124 : decode cX0_read 124 = .ok (.istore 6, 2) := by decide +kernel
theorem dX0_read_126 : decode cX0_read 126 = .ok (.aload_n 0, 1) := by decide +kernel
theorem dX0_read_127 : decode cX0_read 127 = .ok (.iload 6, 2) := by decide +kernel
theorem dX0_read_129 : decode cX0_read 129 = .ok (.sipush 16384, 3) := by decide +kernel
theorem dX0_read_132 : decode cX0_read 132 = .ok (.iand, 1) := by decide +kernel
theorem dX0_read_133 : decode cX0_read 133 = .ok (.ifCond .eq 7, 3) := by decide +kernel
theorem dX0_read_136 : decode cX0_read 136 = .ok (.iconst 1, 1) := by decide +kernel
theorem dX0_read_137 : decode cX0_read 137 = .ok (.goto 4, 3) := by decide +kernel
theorem dX0_read_140 : decode cX0_read 140 = .ok (.iconst 0, 1) := by decide +kernel
theorem dX0_read_141 : decode cX0_read 141 = .ok (.putfield 59, 3) := by decide +kernel
theorem dX0_read_144 : decode cX0_read 144 = .ok (.aload_n 0, 1) := by decide +kernel
theorem dX0_read_145 : decode cX0_read 145 = .ok (.iload 6, 2) := by decide +kernel
theorem dX0_read_147 : decode cX0_read 147 = .ok (.sipush 8192, 3) := by decide +kernel
theorem dX0_read_150 : decode cX0_read 150 = .ok (.iand, 1) := by decide +kernel
theorem dX0_read_151 : decode cX0_read 151 = .ok (.ifCond .eq 7, 3) := by decide +kernel
theorem dX0_read_154 : decode cX0_read 154 = .ok (.iconst 1, 1) := by decide +kernel
theorem dX0_read_155 : decode cX0_read 155 = .ok (.goto 4, 3) := by decide +kernel
theorem dX0_read_158 : decode cX0_read 158 = .ok (.iconst 0, 1) := by decide +kernel
theorem dX0_read_159 : decode cX0_read 159 = .ok (.putfield 63, 3) := by decide +kernel
theorem dX0_read_162 : decode cX0_read 162 = .ok (.aload_n 0, 1) := by decide +kernel
theorem dX0_read_163 : decode cX0_read 163 = .ok (.iload 6, 2) := by decide +kernel
theorem dX0_read_165 : decode cX0_read 165 = .ok (.sipush 8191, 3) := by decide +kernel
theorem dX0_read_168 : decode cX0_read 168 = .ok (.iand, 1) := by decide +kernel
theorem dX0_read_169 : decode cX0_read 169 = .ok (.putfield 66, 3) := by decide +kernel
theorem dX0_read_172 : decode cX0_read 172 = .ok (.aload_n 0, 1) := by decide +kernel
theorem dX0_read_173 : decode cX0_read 173 = .ok (.aload_n 1, 1) := by decide +kernel
theorem dX0_read_174 : decode cX0_read 174 = .ok (.iload_n 2, 1) := by decide +kernel
theorem dX0_read_175 : decode cX0_read 175 = .ok (.bipush 8, 2) := by decide +kernel
theorem dX0_read_177 : decode cX0_read 177 = .ok (.iadd, 1) := by decide +kernel
theorem dX0_read_178 : decode cX0_read 178 = .ok (.invokevirtual 44, 3) := by decide +kernel
theorem dX0_read_181 : decode cX0_read 181 = .ok (.putfield 69, 3) := by decide +kernel
theorem dX0_read_184 : decode cX0_read 184 = .ok (.aload_n 0, 1) := by decide +kernel
theorem dX0_read_185 : decode cX0_read 185 = .ok (.aload_n 1, 1) := by decide +kernel
theorem dX0_read_186 : decode cX0_read 186 = .ok (.iload_n 2, 1) := by decide +kernel
theorem dX0_read_187 : decode cX0_read 187 = .ok (.bipush 9, 2) := by decide +kernel
theorem dX0_read_189 : decode cX0_read 189 = .ok (.iadd, 1) := by decide +kernel
theorem dX0_read_190 : decode cX0_read 190 = .ok (.invokevirtual 44, 3) := by decide +kernel
theorem dX0_read_193 : decode cX0_read 193 = .ok (.putfield 72, 3) := by decide +kernel
theorem dX0_read_196 : decode cX0_read 196 = .ok (.aload_n 0, 1) := by decide +kernel
theorem dX0_read_197 : decode cX0_read 197 = .ok (.aload_n 1, 1) := by decide +kernel
theorem dX0_read_198 : decode cX0_read 198 = .ok (.iload_n 2, 1) := by decide +kernel
theorem dX0_read_199 : decode cX0_read 199 = .ok (.bipush 12, 2) := by decide +kernel
theorem dX0_read_201 : decode cX0_read 201 = .ok (.iadd, 1) := by decide +kernel
theorem dX0_read_202 : decode cX0_read 202 = .ok (.iconst 4, 1) := by decide +kernel
theorem dX0_read_203 : decode cX0_read 203 = .ok (.invokevirtual 75, 3) := by decide +kernel
theorem dX0_read_206 : decode cX0_read 206 = .ok (.l2i, 1) := by decide +kernel
theorem dX0_read_207 : decode cX0_read 207 = .ok (.putfield 78, 3) := by decide +kernel
theorem dX0_read_210 : decode cX0_read 210 = .ok (.aload_n 0, 1) := by decide +kernel
theorem dX0_read_211 : decode cX0_read 211 = .ok (.aload_n 1, 1) := by decide +kernel
theorem dX0_read_212 : decode cX0_read 212 = .ok (.iload_n 2, 1) := by decide +kernel
theorem dX0_read_213 : decode cX0_read 213 = .ok (.bipush 16, 2) := by decide +kernel
theorem dX0_read_215 : decode cX0_read 215 = .ok (.iadd, 1) := by decide +kernel
theorem dX0_read_216 : decode cX0_read 216 = .ok (.iconst 4, 1) := by decide +kernel
theorem dX0_read_217 : decode cX0_read 217 = .ok (.invokevirtual 75, 3) := by decide +kernel
theorem dX0_read_220 : decode cX0_read 220 = .ok (.l2i, 1) := by decide +kernel
theorem dX0_read_221 : decode cX0_read 221 = .ok (.putfield 81, 3) := by decide +kernel
theorem dX0_read_224 : decode cX0_read 224 = .ok (.aload_n 0, 1) := by decide +kernel
theorem dX0_read_225 : decode cX0_read 225 = .ok (.aload_n 1, 1) := by decide +kernel
theorem dX0_read_226 : decode cX0_read 226 = .ok (.iload_n 2, 1) := by decide +kernel
theorem dX0_read_227 : decode cX0_read 227 = .ok (.bipush 12, 2) := by decide +kernel
theorem dX0_read_229 : decode cX0_read 229 = .ok (.iadd, 1) := by decide +kernel
theorem dX0_read_230 : decode cX0_read 230 = .ok (.iload_n 2, 1) := by decide +kernel
theorem dX0_read_231 : decode cX0_read 231 = .ok (.bipush 20, 2) := by decide +kernel
theorem dX0_read_233 : decode cX0_read 233 = .ok (.iadd, 1) := by decide +kernel
theorem dX0_read_234 : decode cX0_read 234 = .ok (.invokevirtual 27, 3) := by decide +kernel
theorem dX0_read_237 : decode cX0_read 237 = .ok (.putfield 84, 3) := by decide +kernel
theorem dX0_read_240 : decode cX0_read 240 = .ok (.aload_n 0, 1) := by decide +kernel
theorem dX0_read_241 : decode cX0_read 241 = .ok (.iload_n 2, 1) := by decide +kernel
theorem dX0_read_242 : decode cX0_read 242 = .ok (.aload_n 0, 1) := by decide +kernel
theorem dX0_read_243 : decode cX0_read 243 = .ok (.getfield 24, 3) := by decide +kernel
theorem dX0_read_246 : decode cX0_read 246 = .ok (.iadd, 1) := by decide +kernel
theorem dX0_read_247 : decode cX0_read 247 = .ok (.putfield 88, 3) := by decide +kernel
theorem dX0_read_250 : decode cX0_read 250 = .ok (.aload_n 0, 1) := by decide +kernel
theorem dX0_read_251 : decode cX0_read 251 = .ok (.aload_n 0, 1) := by decide +kernel
theorem dX0_read_252 : decode cX0_read 252 = .ok (.getfield 21, 3) := by decide +kernel
theorem dX0_read_255 : decode cX0_read 255 = .ok (.aload_n 0, 1) := by decide +kernel
theorem dX0_read_256 : decode cX0_read 256 = .ok (.getfield 24, 3) := by decide +kernel
theorem dX0_read_259 : decode cX0_read 259 = .ok (.isub, 1) := by decide +kernel
theorem dX0_read_260 : decode cX0_read 260 = .ok (.putfield 91, 3) := by decide +kernel
theorem dX0_read_263 : decode cX0_read 263 = .ok (.aload_n 0, 1) := by decide +kernel
theorem dX0_read_264 : decode cX0_read 264 = .ok (.iload_n 3, 1) := by decide +kernel
theorem dX0_read_265 : decode cX0_read 265 = .ok (.iload_n 2, 1) := by decide +kernel
theorem dX0_read_266 : decode cX0_read 266 = .ok (.aload_n 0, 1) := by decide +kernel
theorem dX0_read_267 : decode cX0_read 267 = .ok (.getfield 21, 3) := by decide +kernel
theorem dX0_read_270 : decode cX0_read 270 = .ok (.iadd, 1) := by decide +kernel
theorem dX0_read_271 : decode cX0_read 271 = .ok (.invokestatic 92, 3) := by decide +kernel
theorem dX0_read_274 : decode cX0_read 274 = .ok (.aload_n 0, 1) := by decide +kernel
theorem dX0_read_275 : decode cX0_read 275 = .ok (.getfield 88, 3) := by decide +kernel
theorem dX0_read_278 : decode cX0_read 278 = .ok (.isub, 1) := by decide +kernel
theorem dX0_read_279 : decode cX0_read 279 = .ok (.putfield 98, 3) := by decide +kernel
theorem dX0_read_282 : decode cX0_read 282 = .ok (.iconst 1, 1) := by decide +kernel
theorem dX0_read_283 : decode cX0_read 283 = .ok (.ireturn, 1) := by decide +kernel
theorem dX0_readOptions_0 : decode cX0_readOptions 0 = .ok (.aload_n 0, 1) := by decide +kernel
theorem dX0_readOptions_1 : decode cX0_readOptions 1 = .ok (.getfield 51, 3) := by decide +kernel
theorem dX0_readOptions_4 : decode cX0_readOptions 4 = .ok (.aload_n 0, 1) := by decide +kernel
theorem dX0_readOptions_5 : decode cX0_readOptions 5 = .ok (.getfield 24, 3) := by decide +kernel
theorem dX0_readOptions_8 : decode cX0_readOptions 8 = .ok (.iadd, 1) := by decide +kernel
theorem dX0_readOptions_9 : decode cX0_readOptions 9 = .ok (.istore_n 2, 1) := by decide +kernel
theorem dX0_readOptions_10 : decode cX0_readOptions 10 = .ok (.aload_n 0, 1) := by decide +kernel
theorem dX0_readOptions_11 : decode cX0_readOptions 11 = .ok (.getfield 51, 3) := by decide +kernel
theorem dX0_readOptions_14 : decode cX0_readOptions 14 = .ok (.bipush 20, 2) := by decide +kernel
theorem dX0_readOptions_16 : decode cX0_readOptions 16 = .ok (.iadd, 1) := by decide +kernel
theorem dX0_readOptions_17 : decode cX0_readOptions 17 = .ok (.istore_n 3, 1) := by decide +kernel
theorem dX0_readOptions_18 : decode cX0_readOptions 18 = .ok (.aload_n 0, 1) := by decide +kernel
theorem dX0_readOptions_19 : decode cX0_readOptions 19 = .ok (.iconst 0, 1) := by decide +kernel
theorem dX0_readOptions_20 : decode cX0_readOptions 20 = .ok (.putfield 101, 3) := by decide +kernel
theorem dX0_readOptions_23 : decode cX0_readOptions 23 = .ok (.iconst 0, 1) := by decide +kernel
theorem dX0_readOptions_24 : decode cX0_readOptions 24 = .ok (.istore 4, 2) := by decide +kernel
theorem dX0_readOptions_26 : decode cX0_readOptions 26 = .ok (.iload 4, 2) := by decide +kernel
theorem dX0_readOptions_28 : decode cX0_readOptions 28 = .ok (.aload_n 0, 1) := by decide +kernel
theorem dX0_readOptions_29 : decode cX0_readOptions 29 = .ok (.getfield 24, 3) := by decide +kernel
theorem dX0_readOptions_32 : decode cX0_readOptions 32 = .ok (.if_icmp .ge 142, 3) := by decide +kernel
theorem dX0_readOptions_35 : decode cX0_readOptions 35 = .ok (.iload_n 3, 1) := by decide +kernel
theorem dX0_readOptions_36 : decode cX0_readOptions 36 = .ok (.iload_n 2, 1) := by decide +kernel
theorem dX0_readOptions_37 : decode cX0_readOptions 37 = .ok (.if_icmp .ge 137, 3) := by decide +kernel
theorem dX0_readOptions_40 : decode cX0_readOptions 40 = .ok (.aload_n 1, 1) := by decide +kernel
theorem dX0_readOptions_41 : decode cX0_readOptions 41 = .ok (.iload_n 3, 1) := by decide +kernel
theorem dX0_readOptions_42 : decode cX0_readOptions 42 = .ok (.invokevirtual 44, 3) := by decide +kernel
theorem dX0_readOptions_45 : decode cX0_readOptions 45 = .ok (.istore 5, 2) := by decide +kernel
theorem dX0_readOptions_47 : decode cX0_readOptions 47 = .ok (.iload 5, 2) := by decide +kernel
theorem dX0_readOptions_49 : decode cX0_readOptions 49 = .ok (.ifCond .ne 5, 3) := by decide +kernel
theorem dX0_readOptions_52 : decode cX0_readOptions 52 = .ok (.iconst 1, 1) := by decide +kernel
theorem dX0_readOptions_53 : decode cX0_readOptions 53 = .ok (.ireturn, 1) := by decide +kernel
theorem dX0_readOptions_54 : decode cX0_readOptions 54 = .ok (.iload 5, 2) := by decide +kernel
theorem dX0_readOptions_56 : decode cX0_readOptions 56 = .ok (.iconst 1, 1) := by decide +kernel
theorem dX0_readOptions_57 : decode cX0_readOptions 57 = .ok (.if_icmp .ne 7, 3) := by decide +kernel
theorem dX0_readOptions_60 : decode cX0_readOptions 60 = .ok (.iconst 1, 1) := by decide +kernel
theorem dX0_readOptions_61 : decode cX0_readOptions 61 = .ok (.goto 21, 3) := by decide +kernel
theorem dX0_readOptions_64 : decode cX0_readOptions 64 = .ok (.iload_n 3, 1) := by decide +kernel
theorem dX0_readOptions_65 : decode cX0_readOptions 65 = .ok (.iconst 1, 1) := by decide +kernel
theorem dX0_readOptions_66 : decode cX0_readOptions 66 = .ok (.iadd, 1) := by decide +kernel
theorem dX0_readOptions_67 : decode cX0_readOptions 67 = .ok (.iload_n 2, 1) := by decide +kernel
theorem dX0_readOptions_68 : decode cX0_readOptions 68 = .ok (.if_icmp .ge 13, 3) := by decide +kernel
theorem dX0_readOptions_71 : decode cX0_readOptions 71 = .ok (.aload_n 1, 1) := by decide +kernel
theorem dX0_readOptions_72 : decode cX0_readOptions 72 = .ok (.iload_n 3, 1) := by decide +kernel
theorem dX0_readOptions_73 : decode cX0_readOptions 73 = .ok (.iconst 1, 1) := by decide +kernel
theorem dX0_readOptions_74 : decode cX0_readOptions 74 = .ok (.iadd, 1) := by decide +kernel
theorem dX0_readOptions_75 : decode cX0_readOptions 75 = .ok (.invokevirtual 44, 3) := by decide +kernel
theorem dX0_readOptions_78 : decode cX0_readOptions 78 = .ok (.goto 4, 3) := by decide +kernel
theorem dX0_readOptions_81 : decode cX0_readOptions 81 = .ok (.iconst 0, 1) := by decide +kernel
theorem dX0_readOptions_82 : decode cX0_readOptions 82 = .ok (.istore 6, 2) := by decide +kernel
theorem dX0_readOptions_84 : decode cX0_readOptions 84 = .ok (.iload 6, 2) := by decide +kernel
theorem dX0_readOptions_86 : decode cX0_readOptions 86 = .ok (.iconst 1, 1) := by decide +kernel
theorem dX0_readOptions_87 : decode cX0_readOptions 87 = .ok (.if_icmp .lt 23, 3) := by decide +kernel
theorem dX0_readOptions_90 : decode cX0_readOptions 90 = .ok (.iload 6, 2) := by decide +kernel
theorem dX0_readOptions_92 : decode cX0_readOptions 92 = .ok (.iconst 2, 1) := by decide +kernel
theorem dX0_readOptions_93 : decode cX0_readOptions 93 = .ok (.if_icmp .ge 9, 3) := by decide +kernel
theorem dX0_readOptions_96 : decode cX0_readOptions 96 = .ok (.iload 5, 2) := by decide +kernel
theorem dX0_readOptions_98 : decode cX0_readOptions 98 = .ok (.iconst 1, 1) := by decide +kernel
theorem dX0_readOptions_99 : decode cX0_readOptions 99 = .ok (.if_icmp .ne 11, 3) := by decide +kernel
theorem dX0_readOptions_102 : decode cX0_readOptions 102 = .ok (.iload_n 3, 1) := by decide +kernel
theorem dX0_readOptions_103 : decode cX0_readOptions 103 = .ok (.iload 6, 2) := by decide +kernel
theorem dX0_readOptions_105 : decode cX0_readOptions 105 = .ok (.iadd, 1) := by decide +kernel
theorem dX0_readOptions_106 : decode cX0_readOptions 106 = .ok (.iload_n 2, 1) := by decide +kernel
theorem dX0_readOptions_107 : decode cX0_readOptions 107 = .ok (.if_icmp .le 5, 3) := by decide +kernel
theorem dX0_readOptions_110 : decode cX0_readOptions 110 = .ok (.iconst 0, 1) := by decide +kernel
theorem dX0_readOptions_111 : decode cX0_readOptions 111 = .ok (.ireturn, 1) := by decide +kernel
theorem dX0_readOptions_112 : decode cX0_readOptions 112 = .ok (.iload 5, 2) := by decide +kernel
theorem dX0_readOptions_114 : decode cX0_readOptions 114 = .ok (.sipush 131, 3) := by decide +kernel
theorem dX0_readOptions_117 : decode cX0_readOptions 117 = .ok (.if_icmp .eq 11, 3) := by decide +kernel
theorem dX0_readOptions_120 : decode cX0_readOptions 120 = .ok (.iload 5, 2) := by decide +kernel
theorem dX0_readOptions_122 : decode cX0_readOptions 122 = .ok (.sipush 137, 3) := by decide +kernel
theorem dX0_readOptions_125 : decode cX0_readOptions 125 = .ok (.if_icmp .ne 7, 3) := by decide +kernel
theorem dX0_readOptions_128 : decode cX0_readOptions 128 = .ok (.iconst 1, 1) := by decide +kernel
theorem dX0_readOptions_129 : decode cX0_readOptions 129 = .ok (.goto 4, 3) := by decide +kernel
theorem dX0_readOptions_132 : decode cX0_readOptions 132 = .ok (.iconst 0, 1) := by decide +kernel
theorem dX0_readOptions_133 : decode cX0_readOptions 133 = .ok (.istore 7, 2) := by decide +kernel
theorem dX0_readOptions_135 : decode cX0_readOptions 135 = .ok (.iload 7, 2) := by decide +kernel
theorem dX0_readOptions_137 : decode cX0_readOptions 137 = .ok (.ifCond .eq 26, 3) := by decide +kernel
theorem dX0_readOptions_140 : decode cX0_readOptions 140 = .ok (.iload 6, 2) := by decide +kernel
theorem dX0_readOptions_142 : decode cX0_readOptions 142 = .ok (.iconst 3, 1) := by decide +kernel
theorem dX0_readOptions_143 : decode cX0_readOptions 143 = .ok (.if_icmp .lt 20, 3) := by decide +kernel
theorem dX0_readOptions_146 : decode cX0_readOptions 146 = .ok (.aload_n 1, 1) := by decide +kernel
theorem dX0_readOptions_147 : decode cX0_readOptions 147 = .ok (.iload_n 3, 1) := by decide +kernel
theorem dX0_readOptions_148 : decode cX0_readOptions 148 = .ok (.iconst 2, 1) := by decide +kernel
theorem dX0_readOptions_149 : decode cX0_readOptions 149 = .ok (.iadd, 1) := by decide +kernel
theorem dX0_readOptions_150 : decode cX0_readOptions 150 = .ok (.invokevirtual 44, 3) := by decide +kernel
theorem dX0_readOptions_153 : decode cX0_readOptions 153 = .ok (.iload 6, 2) := by decide +kernel
theorem dX0_readOptions_155 : decode cX0_readOptions 155 = .ok (.if_icmp .gt 8, 3) := by decide +kernel
theorem dX0_readOptions_158 : decode cX0_readOptions 158 = .ok (.aload_n 0, 1) := by decide +kernel
theorem dX0_readOptions_159 : decode cX0_readOptions 159 = .ok (.iconst 1, 1) := by decide +kernel
theorem dX0_readOptions_160 : decode cX0_readOptions 160 = .ok (.putfield 101, 3) := by decide +kernel
theorem dX0_readOptions_163 : decode cX0_readOptions 163 = .ok (.iload_n 3, 1) := by decide +kernel
theorem dX0_readOptions_164 : decode cX0_readOptions 164 = .ok (.iload 6, 2) := by decide +kernel
theorem dX0_readOptions_166 : decode cX0_readOptions 166 = .ok (.iadd, 1) := by decide +kernel
theorem dX0_readOptions_167 : decode cX0_readOptions 167 = .ok (.istore_n 3, 1) := by decide +kernel
theorem dX0_readOptions_168 : decode cX0_readOptions 168 = .ok (.iinc 4 1, 3) := by decide +kernel
theorem dX0_readOptions_171 : decode cX0_readOptions 171 = .ok (.goto (-145), 3) := by decide +kernel
theorem dX0_readOptions_174 : decode cX0_readOptions 174 = .ok (.iconst 1, 1) := by decide +kernel
theorem dX0_readOptions_175 : decode cX0_readOptions 175 = .ok (.ireturn, 1) := by decide +kernel
theorem dX0_fragmentHeader_0 : decode cX0_fragmentHeader 0 = .ok (.aload_n 0, 1) := by decide +kernel
theorem dX0_fragmentHeader_1 : decode cX0_fragmentHeader 1 = .ok (.invokevirtual 104, 3) := by decide +kernel
theorem dX0_fragmentHeader_4 : decode cX0_fragmentHeader 4 = .ok (.ifCond .eq 8, 3) := by decide +kernel
theorem dX0_fragmentHeader_7 : decode cX0_fragmentHeader 7 = .ok (.bipush 8, 2) := by decide +kernel
theorem dX0_fragmentHeader_9 : decode cX0_fragmentHeader 9 = .ok (.goto 4, 3) := by decide +kernel
theorem dX0_fragmentHeader_12 : decode cX0_fragmentHeader 12 = .ok (.iconst 0, 1) := by decide +kernel
theorem dX0_fragmentHeader_13 : decode cX0_fragmentHeader 13 = .ok (.ireturn, 1) := by decide +kernel
theorem dX1_init_0 : decode cX1_init 0 = .ok (.aload_n 0, 1) := by decide +kernel
theorem dX1_init_1 : decode cX1_init 1 = .ok (.invokespecial 3, 3) := by decide +kernel
theorem dX1_init_4 : decode cX1_init 4 = .ok (.aload_n 0, 1) := by decide +kernel
theorem dX1_init_5 : decode cX1_init 5 = .ok (.ldc2_w 11, 3) := by decide +kernel
theorem dX1_init_8 : decode cX1_init 8 = .ok (.putfield 13, 3) := by decide +kernel
theorem dX1_init_11 : decode cX1_init 11 = .ok (.aload_n 0, 1) := by decide +kernel
theorem dX1_init_12 : decode cX1_init 12 = .ok (.lconst 0, 1) := by decide +kernel
theorem dX1_init_13 : decode cX1_init 13 = .ok (.putfield 17, 3) := by decide +kernel
theorem dX1_init_16 : decode cX1_init 16 = .ok (.aload_n 0, 1) := by decide +kernel
theorem dX1_init_17 : decode cX1_init 17 = .ok (.bipush 96, 2) := by decide +kernel
theorem dX1_init_19 : decode cX1_init 19 = .ok (.putfield 20, 3) := by decide +kernel
theorem dX1_init_22 : decode cX1_init 22 = .ok (.return_, 1) := by decide +kernel
theorem dX1_canBePrefix_0 : decode cX1_canBePrefix 0 = .ok (.iload 4, 2) := by decide +kernel
theorem dX1_canBePrefix_2 : decode cX1_canBePrefix 2 = .ok (.lookupswitch 116 #[(32, 58), (40, 58), (48, 58), (56, 58), (64, 79), (96, 91)], 58) := by decide +kernel
theorem dX1_canBePrefix_60 : decode cX1_canBePrefix 60 = .ok (.lload_n 2, 1) := by decide +kernel
theorem dX1_canBePrefix_61 : decode cX1_canBePrefix 61 = .ok (.lconst 0, 1) := by decide +kernel
theorem dX1_canBePrefix_62 : decode cX1_canBePrefix 62 = .ok (.lcmp, 1) := by decide +kernel
theorem dX1_canBePrefix_63 : decode cX1_canBePrefix 63 = .ok (.ifCond .ne 16, 3) := by decide +kernel
theorem dX1_canBePrefix_66 : decode cX1_canBePrefix 66 = .ok (.lload_n 0, 1) := by decide +kernel
theorem dX1_canBePrefix_67 : decode cX1_canBePrefix 67 = .ok (.iload 4, 2) := by decide +kernel
theorem dX1_canBePrefix_69 : decode cX1_canBePrefix 69 = .ok (.lshl, 1) := by decide +kernel
theorem dX1_canBePrefix_70 : decode cX1_canBePrefix 70 = .ok (.lconst 0, 1) := by decide +kernel
theorem dX1_canBePrefix_71 : decode cX1_canBePrefix 71 = .ok (.lcmp, 1) := by decide +kernel
theorem dX1_canBePrefix_72 : decode cX1_canBePrefix 72 = .ok (.ifCond .ne 7, 3) := by decide +kernel
theorem dX1_canBePrefix_75 : decode cX1_canBePrefix 75 = .ok (.iconst 1, 1) := by decide +kernel
theorem dX1_canBePrefix_76 : decode cX1_canBePrefix 76 = .ok (.goto 4, 3) := by decide +kernel
theorem dX1_canBePrefix_79 : decode cX1_canBePrefix 79 = .ok (.iconst 0, 1) := by decide +kernel
theorem dX1_canBePrefix_80 : decode cX1_canBePrefix 80 = .ok (.ireturn, 1) := by decide +kernel
theorem dX1_canBePrefix_81 : decode cX1_canBePrefix 81 = .ok (.lload_n 2, 1) := by decide +kernel
theorem dX1_canBePrefix_82 : decode cX1_canBePrefix 82 = .ok (.lconst 0, 1) := by decide +kernel
theorem dX1_canBePrefix_83 : decode cX1_canBePrefix 83 = .ok (.lcmp, 1) := by decide +kernel
theorem dX1_canBePrefix_84 : decode cX1_canBePrefix 84 = .ok (.ifCond .ne 7, 3) := by decide +kernel
theorem dX1_canBePrefix_87 : decode cX1_canBePrefix 87 = .ok (.iconst 1, 1) := by decide +kernel
theorem dX1_canBePrefix_88 : decode cX1_canBePrefix 88 = .ok (.goto 4, 3) := by decide +kernel
theorem dX1_canBePrefix_91 : decode cX1_canBePrefix 91 = .ok (.iconst 0, 1) := by decide +kernel
theorem dX1_canBePrefix_92 : decode cX1_canBePrefix 92 = .ok (.ireturn, 1) := by decide +kernel
theorem dX1_canBePrefix_93 : decode cX1_canBePrefix 93 = .ok (.lload_n 2, 1) := by decide +kernel
theorem dX1_canBePrefix_94 : decode cX1_canBePrefix 94 = .ok (.bipush 56, 2) := by decide +kernel
theorem dX1_canBePrefix_96 : decode cX1_canBePrefix 96 = .ok (.lushr, 1) := by decide +kernel
theorem dX1_canBePrefix_97 : decode cX1_canBePrefix 97 = .ok (.lconst 0, 1) := by decide +kernel
theorem dX1_canBePrefix_98 : decode cX1_canBePrefix 98 = .ok (.lcmp, 1) := by decide +kernel
theorem dX1_canBePrefix_99 : decode cX1_canBePrefix 99 = .ok (.ifCond .ne 17, 3) := by decide +kernel
theorem dX1_canBePrefix_102 : decode cX1_canBePrefix 102 = .ok (.lload_n 2, 1) := by decide +kernel
theorem dX1_canBePrefix_103 : decode cX1_canBePrefix 103 = .ok (.ldc2_w 24, 3) := by decide +kernel
theorem dX1_canBePrefix_106 : decode cX1_canBePrefix 106 = .ok (.land, 1) := by decide +kernel
theorem dX1_canBePrefix_107 : decode cX1_canBePrefix 107 = .ok (.lconst 0, 1) := by decide +kernel
theorem dX1_canBePrefix_108 : decode cX1_canBePrefix 108 = .ok (.lcmp, 1) := by decide +kernel
theorem dX1_canBePrefix_109 : decode cX1_canBePrefix 109 = .ok (.ifCond .ne 7, 3) := by decide +kernel
theorem dX1_canBePrefix_112 : decode cX1_canBePrefix 112 = .ok (.iconst 1, 1) := by decide +kernel
theorem dX1_canBePrefix_113 : decode cX1_canBePrefix 113 = .ok (.goto 4, 3) := by decide +kernel
theorem dX1_canBePrefix_116 : decode cX1_canBePrefix 116 = .ok (.iconst 0, 1) := by decide +kernel
theorem dX1_canBePrefix_117 : decode cX1_canBePrefix 117 = .ok (.ireturn, 1) := by decide +kernel
theorem dX1_canBePrefix_118 : decode cX1_canBePrefix 118 = .ok (.iconst 0, 1) := by decide +kernel
theorem dX1_canBePrefix_119 : decode cX1_canBePrefix 119 = .ok (.ireturn, 1) := by decide +kernel
theorem dX1_mappable_0 : decode cX1_mappable 0 = .ok (.iload_n 1, 1) := by decide +kernel
theorem dX1_mappable_1 : decode cX1_mappable 1 = .ok (.bipush 24, 2) := by decide +kernel
theorem dX1_mappable_3 : decode cX1_mappable 3 = .ok (.iushr, 1) := by decide +kernel
theorem dX1_mappable_4 : decode cX1_mappable 4 = .ok (.istore_n 2, 1) := by decide +kernel
theorem dX1_mappable_5 : decode cX1_mappable 5 = .ok (.iload_n 2, 1) := by decide +kernel
theorem dX1_mappable_6 : decode cX1_mappable 6 = .ok (.ifCond .eq 25, 3) := by decide +kernel
theorem dX1_mappable_9 : decode cX1_mappable 9 = .ok (.iload_n 2, 1) := by decide +kernel
theorem dX1_mappable_10 : decode cX1_mappable 10 = .ok (.bipush 127, 2) := by decide +kernel
theorem dX1_mappable_12 : decode cX1_mappable 12 = .ok (.if_icmp .eq 19, 3) := by decide +kernel
theorem dX1_mappable_15 : decode cX1_mappable 15 = .ok (.iload_n 2, 1) := by decide +kernel
theorem dX1_mappable_16 : decode cX1_mappable 16 = .ok (.sipush 224, 3) := by decide +kernel
theorem dX1_mappable_19 : decode cX1_mappable 19 = .ok (.if_icmp .ge 12, 3) := by decide +kernel
theorem dX1_mappable_22 : decode cX1_mappable 22 = .ok (.iload_n 1, 1) := by decide +kernel
theorem dX1_mappable_23 : decode cX1_mappable 23 = .ok (.bipush 16, 2) := by decide +kernel
theorem dX1_mappable_25 : decode cX1_mappable 25 = .ok (.iushr, 1) := by decide +kernel
theorem dX1_mappable_26 : decode cX1_mappable 26 = .ok (.ldc 26, 2) := by decide +kernel
theorem dX1_mappable_28 : decode cX1_mappable 28 = .ok (.if_icmp .ne 5, 3) := by decide +kernel
theorem dX1_mappable_31 : decode cX1_mappable 31 = .ok (.iconst 0, 1) := by decide +kernel
theorem dX1_mappable_32 : decode cX1_mappable 32 = .ok (.ireturn, 1) := by decide +kernel
theorem dX1_mappable_33 : decode cX1_mappable 33 = .ok (.aload_n 0, 1) := by decide +kernel
theorem dX1_mappable_34 : decode cX1_mappable 34 = .ok (.getfield 13, 3) := by decide +kernel
theorem dX1_mappable_37 : decode cX1_mappable 37 = .ok (.ldc2_w 11, 3) := by decide +kernel
theorem dX1_mappable_40 : decode cX1_mappable 40 = .ok (.lcmp, 1) := by decide +kernel
theorem dX1_mappable_41 : decode cX1_mappable 41 = .ok (.ifCond .ne 25, 3) := by decide +kernel
theorem dX1_mappable_44 : decode cX1_mappable 44 = .ok (.aload_n 0, 1) := by decide +kernel
theorem dX1_mappable_45 : decode cX1_mappable 45 = .ok (.getfield 17, 3) := by decide +kernel
theorem dX1_mappable_48 : decode cX1_mappable 48 = .ok (.lconst 0, 1) := by decide +kernel
theorem dX1_mappable_49 : decode cX1_mappable 49 = .ok (.lcmp, 1) := by decide +kernel
theorem dX1_mappable_50 : decode cX1_mappable 50 = .ok (.ifCond .ne 16, 3) := by decide +kernel
theorem dX1_mappable_53 : decode cX1_mappable 53 = .ok (.aload_n 0, 1) := by decide +kernel
theorem dX1_mappable_54 : decode cX1_mappable 54 = .ok (.getfield 20, 3) := by decide +kernel
theorem dX1_mappable_57 : decode cX1_mappable 57 = .ok (.bipush 96, 2) := by decide +kernel
theorem dX1_mappable_59 : decode cX1_mappable 59 = .ok (.if_icmp .ne 7, 3) := by decide +kernel
theorem dX1_mappable_62 : decode cX1_mappable 62 = .ok (.iconst 1, 1) := by decide +kernel
theorem dX1_mappable_63 : decode cX1_mappable 63 = .ok (.goto 4, 3) := by decide +kernel
theorem dX1_mappable_66 : decode cX1_mappable 66 = .ok (.iconst 0, 1) := by decide +kernel
theorem dX1_mappable_67 : decode cX1_mappable 67 = .ok (.istore_n 3, 1) := by decide +kernel
theorem dX1_mappable_68 : decode cX1_mappable 68 = .ok (.iload_n 2, 1) := by decide +kernel
theorem dX1_mappable_69 : decode cX1_mappable 69 = .ok (.bipush 10, 2) := by decide +kernel
theorem dX1_mappable_71 : decode cX1_mappable 71 = .ok (.if_icmp .eq 22, 3) := by decide +kernel
theorem dX1_mappable_74 : decode cX1_mappable 74 = .ok (.iload_n 1, 1) := by decide +kernel
theorem dX1_mappable_75 : decode cX1_mappable 75 = .ok (.bipush 20, 2) := by decide +kernel
theorem dX1_mappable_77 : decode cX1_mappable 77 = .ok (.iushr, 1) := by decide +kernel
theorem dX1_mappable_78 : decode cX1_mappable 78 = .ok (.sipush 2753, 3) := by decide +kernel
theorem dX1_mappable_81 : decode cX1_mappable 81 = .ok (.if_icmp .eq 12, 3) := by decide +kernel
theorem dX1_mappable_84 : decode cX1_mappable 84 = .ok (.iload_n 1, 1) := by decide +kernel
theorem dX1_mappable_85 : decode cX1_mappable 85 = .ok (.bipush 16, 2) := by decide +kernel
theorem dX1_mappable_87 : decode cX1_mappable 87 = .ok (.iushr, 1) := by decide +kernel
theorem dX1_mappable_88 : decode cX1_mappable 88 = .ok (.ldc 27, 2) := by decide +kernel
theorem dX1_mappable_90 : decode cX1_mappable 90 = .ok (.if_icmp .ne 7, 3) := by decide +kernel
theorem dX1_mappable_93 : decode cX1_mappable 93 = .ok (.iconst 1, 1) := by decide +kernel
theorem dX1_mappable_94 : decode cX1_mappable 94 = .ok (.goto 4, 3) := by decide +kernel
theorem dX1_mappable_97 : decode cX1_mappable 97 = .ok (.iconst 0, 1) := by decide +kernel
theorem dX1_mappable_98 : decode cX1_mappable 98 = .ok (.istore 4, 2) := by decide +kernel
theorem dX1_mappable_100 : decode cX1_mappable 100 = .ok (.iload_n 3, 1) := by decide +kernel
theorem dX1_mappable_101 : decode cX1_mappable 101 = .ok (.ifCond .eq 8, 3) := by decide +kernel
theorem dX1_mappable_104 : decode cX1_mappable 104 = .ok (.iload 4, 2) := by decide +kernel
theorem dX1_mappable_106 : decode cX1_mappable 106 = .ok (.ifCond .ne 7, 3) := by decide +kernel
theorem dX1_mappable_109 : decode cX1_mappable 109 = .ok (.iconst 1, 1) := by decide +kernel
theorem dX1_mappable_110 : decode cX1_mappable 110 = .ok (.goto 4, 3) := by decide +kernel
theorem dX1_mappable_113 : decode cX1_mappable 113 = .ok (.iconst 0, 1) := by decide +kernel
theorem dX1_mappable_114 : decode cX1_mappable 114 = .ok (.ireturn, 1) := by decide +kernel
theorem dX1_bitsBehind_0 : decode cX1_bitsBehind 0 = .ok (.aload_n 0, 1) := by decide +kernel
theorem dX1_bitsBehind_1 : decode cX1_bitsBehind 1 = .ok (.getfield 20, 3) := by decide +kernel
theorem dX1_bitsBehind_4 : decode cX1_bitsBehind 4 = .ok (.bipush 32, 2) := by decide +kernel
theorem dX1_bitsBehind_6 : decode cX1_bitsBehind 6 = .ok (.isub, 1) := by decide +kernel
theorem dX1_bitsBehind_7 : decode cX1_bitsBehind 7 = .ok (.ireturn, 1) := by decide +kernel
theorem dX1_upperOf_0 : decode cX1_upperOf 0 = .ok (.aload_n 0, 1) := by decide +kernel
theorem dX1_upperOf_1 : decode cX1_upperOf 1 = .ok (.getfield 20, 3) := by decide +kernel
theorem dX1_upperOf_4 : decode cX1_upperOf 4 = .ok (.bipush 96, 2) := by decide +kernel
theorem dX1_upperOf_6 : decode cX1_upperOf 6 = .ok (.if_icmp .ne 10, 3) := by decide +kernel
theorem dX1_upperOf_9 : decode cX1_upperOf 9 = .ok (.aload_n 0, 1) := by decide +kernel
theorem dX1_upperOf_10 : decode cX1_upperOf 10 = .ok (.getfield 13, 3) := by decide +kernel
theorem dX1_upperOf_13 : decode cX1_upperOf 13 = .ok (.goto 19, 3) := by decide +kernel
theorem dX1_upperOf_16 : decode cX1_upperOf 16 = .ok (.aload_n 0, 1) := by decide +kernel
theorem dX1_upperOf_17 : decode cX1_upperOf 17 = .ok (.getfield 13, 3) := by decide +kernel
theorem dX1_upperOf_20 : decode cX1_upperOf 20 = .ok (.iload_n 1, 1) := by decide +kernel
theorem dX1_upperOf_21 : decode cX1_upperOf 21 = .ok (.i2l, 1) := by decide +kernel
theorem dX1_upperOf_22 : decode cX1_upperOf 22 = .ok (.ldc2_w 24, 3) := by decide +kernel
theorem dX1_upperOf_25 : decode cX1_upperOf 25 = .ok (.land, 1) := by decide +kernel
theorem dX1_upperOf_26 : decode cX1_upperOf 26 = .ok (.aload_n 0, 1) := by decide +kernel
theorem dX1_upperOf_27 : decode cX1_upperOf 27 = .ok (.invokevirtual 28, 3) := by decide +kernel
theorem dX1_upperOf_30 : decode cX1_upperOf 30 = .ok (.lushr, 1) := by decide +kernel
theorem dX1_upperOf_31 : decode cX1_upperOf 31 = .ok (.lor, 1) := by decide +kernel
theorem dX1_upperOf_32 : decode cX1_upperOf 32 = .ok (.lreturn, 1) := by decide +kernel
theorem dX1_lowerOf_0 : decode cX1_lowerOf 0 = .ok (.iload_n 1, 1) := by decide +kernel
theorem dX1_lowerOf_1 : decode cX1_lowerOf 1 = .ok (.i2l, 1) := by decide +kernel
theorem dX1_lowerOf_2 : decode cX1_lowerOf 2 = .ok (.ldc2_w 24, 3) := by decide +kernel
theorem dX1_lowerOf_5 : decode cX1_lowerOf 5 = .ok (.land, 1) := by decide +kernel
theorem dX1_lowerOf_6 : decode cX1_lowerOf 6 = .ok (.lstore_n 2, 1) := by decide +kernel
theorem dX1_lowerOf_7 : decode cX1_lowerOf 7 = .ok (.aload_n 0, 1) := by decide +kernel
theorem dX1_lowerOf_8 : decode cX1_lowerOf 8 = .ok (.getfield 20, 3) := by decide +kernel
theorem dX1_lowerOf_11 : decode cX1_lowerOf 11 = .ok (.bipush 96, 2) := by decide +kernel
theorem dX1_lowerOf_13 : decode cX1_lowerOf 13 = .ok (.if_icmp .ne 10, 3) := by decide +kernel
theorem dX1_lowerOf_16 : decode cX1_lowerOf 16 = .ok (.aload_n 0, 1) := by decide +kernel
theorem dX1_lowerOf_17 : decode cX1_lowerOf 17 = .ok (.getfield 17, 3) := by decide +kernel
theorem dX1_lowerOf_20 : decode cX1_lowerOf 20 = .ok (.lload_n 2, 1) := by decide +kernel
theorem dX1_lowerOf_21 : decode cX1_lowerOf 21 = .ok (.lor, 1) := by decide +kernel
theorem dX1_lowerOf_22 : decode cX1_lowerOf 22 = .ok (.lreturn, 1) := by decide +kernel
theorem dX1_lowerOf_23 : decode cX1_lowerOf 23 = .ok (.lload_n 2, 1) := by decide +kernel
theorem dX1_lowerOf_24 : decode cX1_lowerOf 24 = .ok (.lconst 1, 1) := by decide +kernel
theorem dX1_lowerOf_25 : decode cX1_lowerOf 25 = .ok (.aload_n 0, 1) := by decide +kernel
theorem dX1_lowerOf_26 : decode cX1_lowerOf 26 = .ok (.invokevirtual 28, 3) := by decide +kernel
theorem dX1_lowerOf_29 : decode cX1_lowerOf 29 = .ok (.lshl, 1) := by decide +kernel
theorem dX1_lowerOf_30 : decode cX1_lowerOf 30 = .ok (.lconst 1, 1) := by decide +kernel
theorem dX1_lowerOf_31 : decode cX1_lowerOf 31 = .ok (.lsub, 1) := by decide +kernel
theorem dX1_lowerOf_32 : decode cX1_lowerOf 32 = .ok (.land, 1) := by decide +kernel
theorem dX1_lowerOf_33 : decode cX1_lowerOf 33 = .ok (.lstore 4, 2) := by decide +kernel
theorem dX1_lowerOf_35 : decode cX1_lowerOf 35 = .ok (.lload 4, 2) := by decide +kernel
theorem dX1_lowerOf_37 : decode cX1_lowerOf 37 = .ok (.bipush 56, 2) := by decide +kernel
theorem dX1_lowerOf_39 : decode cX1_lowerOf 39 = .ok (.aload_n 0, 1) := by decide +kernel
theorem dX1_lowerOf_40 : decode cX1_lowerOf 40 = .ok (.invokevirtual 28, 3) := by decide +kernel
theorem dX1_lowerOf_43 : decode cX1_lowerOf 43 = .ok (.isub, 1) := by decide +kernel
theorem dX1_lowerOf_44 : decode cX1_lowerOf 44 = .ok (.lshl, 1) := by decide +kernel
theorem dX1_lowerOf_45 : decode cX1_lowerOf 45 = .ok (.lreturn, 1) := by decide +kernel
theorem dX1_fourOf_0 : decode cX1_fourOf 0 = .ok (.aload_n 0, 1) := by decide +kernel
theorem dX1_fourOf_1 : decode cX1_fourOf 1 = .ok (.getfield 20, 3) := by decide +kernel
theorem dX1_fourOf_4 : decode cX1_fourOf 4 = .ok (.bipush 96, 2) := by decide +kernel
theorem dX1_fourOf_6 : decode cX1_fourOf 6 = .ok (.if_icmp .ne 7, 3) := by decide +kernel
theorem dX1_fourOf_9 : decode cX1_fourOf 9 = .ok (.lload_n 3, 1) := by decide +kernel
theorem dX1_fourOf_10 : decode cX1_fourOf 10 = .ok (.goto 19, 3) := by decide +kernel
theorem dX1_fourOf_13 : decode cX1_fourOf 13 = .ok (.lload_n 1, 1) := by decide +kernel
theorem dX1_fourOf_14 : decode cX1_fourOf 14 = .ok (.aload_n 0, 1) := by decide +kernel
theorem dX1_fourOf_15 : decode cX1_fourOf 15 = .ok (.invokevirtual 28, 3) := by decide +kernel
theorem dX1_fourOf_18 : decode cX1_fourOf 18 = .ok (.lshl, 1) := by decide +kernel
theorem dX1_fourOf_19 : decode cX1_fourOf 19 = .ok (.lload_n 3, 1) := by decide +kernel
theorem dX1_fourOf_20 : decode cX1_fourOf 20 = .ok (.bipush 56, 2) := by decide +kernel
theorem dX1_fourOf_22 : decode cX1_fourOf 22 = .ok (.aload_n 0, 1) := by decide +kernel
theorem dX1_fourOf_23 : decode cX1_fourOf 23 = .ok (.invokevirtual 28, 3) := by decide +kernel
theorem dX1_fourOf_26 : decode cX1_fourOf 26 = .ok (.isub, 1) := by decide +kernel
theorem dX1_fourOf_27 : decode cX1_fourOf 27 = .ok (.lushr, 1) := by decide +kernel
theorem dX1_fourOf_28 : decode cX1_fourOf 28 = .ok (.lor, 1) := by decide +kernel
theorem dX1_fourOf_29 : decode cX1_fourOf 29 = .ok (.lstore 5, 2) := by decide +kernel
theorem dX1_fourOf_31 : decode cX1_fourOf 31 = .ok (.lload 5, 2) := by decide +kernel
theorem dX1_fourOf_33 : decode cX1_fourOf 33 = .ok (.l2i, 1) := by decide +kernel
theorem dX1_fourOf_34 : decode cX1_fourOf 34 = .ok (.istore 7, 2) := by decide +kernel
theorem dX1_fourOf_36 : decode cX1_fourOf 36 = .ok (.aload_n 0, 1) := by decide +kernel
theorem dX1_fourOf_37 : decode cX1_fourOf 37 = .ok (.iload 7, 2) := by decide +kernel
theorem dX1_fourOf_39 : decode cX1_fourOf 39 = .ok (.invokevirtual 32, 3) := by decide +kernel
theorem dX1_fourOf_42 : decode cX1_fourOf 42 = .ok (.lload_n 1, 1) := by decide +kernel
theorem dX1_fourOf_43 : decode cX1_fourOf 43 = .ok (.lcmp, 1) := by decide +kernel
theorem dX1_fourOf_44 : decode cX1_fourOf 44 = .ok (.ifCond .ne 18, 3) := by decide +kernel
theorem dX1_fourOf_47 : decode cX1_fourOf 47 = .ok (.aload_n 0, 1) := by decide +kernel
theorem dX1_fourOf_48 : decode cX1_fourOf 48 = .ok (.iload 7, 2) := by decide +kernel
theorem dX1_fourOf_50 : decode cX1_fourOf 50 = .ok (.invokevirtual 36, 3) := by decide +kernel
theorem dX1_fourOf_53 : decode cX1_fourOf 53 = .ok (.lload_n 3, 1) := by decide +kernel
theorem dX1_fourOf_54 : decode cX1_fourOf 54 = .ok (.lcmp, 1) := by decide +kernel
theorem dX1_fourOf_55 : decode cX1_fourOf 55 = .ok (.ifCond .ne 7, 3) := by decide +kernel
theorem dX1_fourOf_58 : decode cX1_fourOf 58 = .ok (.iconst 1, 1) := by decide +kernel
theorem dX1_fourOf_59 : decode cX1_fourOf 59 = .ok (.goto 4, 3) := by decide +kernel
theorem dX1_fourOf_62 : decode cX1_fourOf 62 = .ok (.iconst 0, 1) := by decide +kernel
theorem dX1_fourOf_63 : decode cX1_fourOf 63 = .ok (.istore 8, 2) := by decide +kernel
theorem dX1_fourOf_65 : decode cX1_fourOf 65 = .ok (.iload 8, 2) := by decide +kernel
theorem dX1_fourOf_67 : decode cX1_fourOf 67 = .ok (.ifCond .eq 22, 3) := by decide +kernel
theorem dX1_fourOf_70 : decode cX1_fourOf 70 = .ok (.aload_n 0, 1) := by decide +kernel
theorem dX1_fourOf_71 : decode cX1_fourOf 71 = .ok (.iload 7, 2) := by decide +kernel
theorem dX1_fourOf_73 : decode cX1_fourOf 73 = .ok (.invokevirtual 39, 3) := by decide +kernel
theorem dX1_fourOf_76 : decode cX1_fourOf 76 = .ok (.ifCond .eq 13, 3) := by decide +kernel
theorem dX1_fourOf_79 : decode cX1_fourOf 79 = .ok (.iload 7, 2) := by decide +kernel
theorem dX1_fourOf_81 : decode cX1_fourOf 81 = .ok (.i2l, 1) := by decide +kernel
theorem dX1_fourOf_82 : decode cX1_fourOf 82 = .ok (.ldc2_w 24, 3) := by decide +kernel
theorem dX1_fourOf_85 : decode cX1_fourOf 85 = .ok (.land, 1) := by decide +kernel
theorem dX1_fourOf_86 : decode cX1_fourOf 86 = .ok (.goto 6, 3) := by decide +kernel
theorem dX1_fourOf_89 : decode cX1_fourOf 89 = .ok (.ldc2_w 43, 3) := by decide +kernel
theorem dX1_fourOf_92 : decode cX1_fourOf 92 = .ok (.lreturn, 1) := by decide +kernel
theorem dX2_init_0 : decode cX2_init 0 = .ok (.aload_n 0, 1) := by decide +kernel
theorem dX2_init_1 : decode cX2_init 1 = .ok (.invokespecial 3, 3) := by decide +kernel
theorem dX2_init_4 : decode cX2_init 4 = .ok (.return_, 1) := by decide +kernel
theorem dX2_fragment_0 : decode cX2_fragment 0 = .ok (.aload_n 0, 1) := by decide +kernel
theorem dX2_fragment_1 : decode cX2_fragment 1 = .ok (.getfield 9, 3) := by decide +kernel
theorem dX2_fragment_4 : decode cX2_fragment 4 = .ok (.ifCond .ne 10, 3) := by decide +kernel
theorem dX2_fragment_7 : decode cX2_fragment 7 = .ok (.aload_n 0, 1) := by decide +kernel
theorem dX2_fragment_8 : decode cX2_fragment 8 = .ok (.getfield 15, 3) := by decide +kernel
theorem dX2_fragment_11 : decode cX2_fragment 11 = .ok (.ifCond .eq 7, 3) := by decide +kernel
theorem dX2_fragment_14 : decode cX2_fragment 14 = .ok (.iconst 1, 1) := by decide +kernel
theorem dX2_fragment_15 : decode cX2_fragment 15 = .ok (.goto 4, 3) := by decide +kernel
theorem dX2_fragment_18 : decode cX2_fragment 18 = .ok (.iconst 0, 1) := by decide +kernel
theorem dX2_fragment_19 : decode cX2_fragment 19 = .ok (.ireturn, 1) := by decide +kernel
theorem dX2_endsTooFar_0 : decode cX2_endsTooFar 0 = .ok (.aload_n 0, 1) := by decide +kernel
theorem dX2_endsTooFar_1 : decode cX2_endsTooFar 1 = .ok (.invokevirtual 19, 3) := by decide +kernel
theorem dX2_endsTooFar_4 : decode cX2_endsTooFar 4 = .ok (.ifCond .eq 24, 3) := by decide +kernel
theorem dX2_endsTooFar_7 : decode cX2_endsTooFar 7 = .ok (.aload_n 0, 1) := by decide +kernel
theorem dX2_endsTooFar_8 : decode cX2_endsTooFar 8 = .ok (.getfield 15, 3) := by decide +kernel
theorem dX2_endsTooFar_11 : decode cX2_endsTooFar 11 = .ok (.bipush 8, 2) := by decide +kernel
theorem dX2_endsTooFar_13 : decode cX2_endsTooFar 13 = .ok (.imul, 1) := by decide +kernel
theorem dX2_endsTooFar_14 : decode cX2_endsTooFar 14 = .ok (.aload_n 0, 1) := by decide +kernel
theorem dX2_endsTooFar_15 : decode cX2_endsTooFar 15 = .ok (.getfield 23, 3) := by decide +kernel
theorem dX2_endsTooFar_18 : decode cX2_endsTooFar 18 = .ok (.iadd, 1) := by decide +kernel
theorem dX2_endsTooFar_19 : decode cX2_endsTooFar 19 = .ok (.ldc 26, 2) := by decide +kernel
theorem dX2_endsTooFar_21 : decode cX2_endsTooFar 21 = .ok (.if_icmp .le 7, 3) := by decide +kernel
theorem dX2_endsTooFar_24 : decode cX2_endsTooFar 24 = .ok (.iconst 1, 1) := by decide +kernel
theorem dX2_endsTooFar_25 : decode cX2_endsTooFar 25 = .ok (.goto 4, 3) := by decide +kernel
theorem dX2_endsTooFar_28 : decode cX2_endsTooFar 28 = .ok (.iconst 0, 1) := by decide +kernel
theorem dX2_endsTooFar_29 : decode cX2_endsTooFar 29 = .ok (.ireturn, 1) := by decide +kernel
theorem dX3_init_0 : decode cX3_init 0 = .ok (.aload_n 0, 1) := by decide +kernel
theorem dX3_init_1 : decode cX3_init 1 = .ok (.invokespecial 3, 3) := by decide +kernel
theorem dX3_init_4 : decode cX3_init 4 = .ok (.aload_n 0, 1) := by decide +kernel
theorem dX3_init_5 : decode cX3_init 5 = .ok (.new 9, 3) := by decide +kernel
theorem dX3_init_8 : decode cX3_init 8 = .ok (.dup, 1) := by decide +kernel
theorem dX3_init_9 : decode cX3_init 9 = .ok (.sipush 3332, 3) := by decide +kernel
theorem dX3_init_12 : decode cX3_init 12 = .ok (.newarray .byte, 2) := by decide +kernel
theorem dX3_init_14 : decode cX3_init 14 = .ok (.invokespecial 11, 3) := by decide +kernel
theorem dX3_init_17 : decode cX3_init 17 = .ok (.putfield 14, 3) := by decide +kernel
theorem dX3_init_20 : decode cX3_init 20 = .ok (.aload_n 0, 1) := by decide +kernel
theorem dX3_init_21 : decode cX3_init 21 = .ok (.bipush 49, 2) := by decide +kernel
theorem dX3_init_23 : decode cX3_init 23 = .ok (.newarray .int, 2) := by decide +kernel
theorem dX3_init_25 : decode cX3_init 25 = .ok (.putfield 20, 3) := by decide +kernel
theorem dX3_init_28 : decode cX3_init 28 = .ok (.aload_n 0, 1) := by decide +kernel
theorem dX3_init_29 : decode cX3_init 29 = .ok (.bipush 49, 2) := by decide +kernel
theorem dX3_init_31 : decode cX3_init 31 = .ok (.newarray .int, 2) := by decide +kernel
theorem dX3_init_33 : decode cX3_init 33 = .ok (.putfield 24, 3) := by decide +kernel
theorem dX3_init_36 : decode cX3_init 36 = .ok (.return_, 1) := by decide +kernel
theorem dX3_clear_0 : decode cX3_clear 0 = .ok (.aload_n 0, 1) := by decide +kernel
theorem dX3_clear_1 : decode cX3_clear 1 = .ok (.iconst 0, 1) := by decide +kernel
theorem dX3_clear_2 : decode cX3_clear 2 = .ok (.putfield 27, 3) := by decide +kernel
theorem dX3_clear_5 : decode cX3_clear 5 = .ok (.aload_n 0, 1) := by decide +kernel
theorem dX3_clear_6 : decode cX3_clear 6 = .ok (.getfield 14, 3) := by decide +kernel
theorem dX3_clear_9 : decode cX3_clear 9 = .ok (.iconst 0, 1) := by decide +kernel
theorem dX3_clear_10 : decode cX3_clear 10 = .ok (.putfield 31, 3) := by decide +kernel
theorem dX3_clear_13 : decode cX3_clear 13 = .ok (.return_, 1) := by decide +kernel
theorem dX3_open_0 : decode cX3_open 0 = .ok (.aload_n 0, 1) := by decide +kernel
theorem dX3_open_1 : decode cX3_open 1 = .ok (.getfield 14, 3) := by decide +kernel
theorem dX3_open_4 : decode cX3_open 4 = .ok (.getfield 31, 3) := by decide +kernel
theorem dX3_open_7 : decode cX3_open 7 = .ok (.istore_n 2, 1) := by decide +kernel
theorem dX3_open_8 : decode cX3_open 8 = .ok (.aload_n 0, 1) := by decide +kernel
theorem dX3_open_9 : decode cX3_open 9 = .ok (.getfield 27, 3) := by decide +kernel
theorem dX3_open_12 : decode cX3_open 12 = .ok (.ifCond .lt 52, 3) := by decide +kernel
theorem dX3_open_15 : decode cX3_open 15 = .ok (.aload_n 0, 1) := by decide +kernel
theorem dX3_open_16 : decode cX3_open 16 = .ok (.getfield 27, 3) := by decide +kernel
theorem dX3_open_19 : decode cX3_open 19 = .ok (.bipush 49, 2) := by decide +kernel
theorem dX3_open_21 : decode cX3_open 21 = .ok (.if_icmp .ge 43, 3) := by decide +kernel
theorem dX3_open_24 : decode cX3_open 24 = .ok (.aload_n 0, 1) := by decide +kernel
theorem dX3_open_25 : decode cX3_open 25 = .ok (.getfield 20, 3) := by decide +kernel
theorem dX3_open_28 : decode cX3_open 28 = .ok (.aload_n 0, 1) := by decide +kernel
theorem dX3_open_29 : decode cX3_open 29 = .ok (.getfield 27, 3) := by decide +kernel
theorem dX3_open_32 : decode cX3_open 32 = .ok (.iload_n 2, 1) := by decide +kernel
theorem dX3_open_33 : decode cX3_open 33 = .ok (.iastore, 1) := by decide +kernel
theorem dX3_open_34 : decode cX3_open 34 = .ok (.aload_n 0, 1) := by decide +kernel
theorem dX3_open_35 : decode cX3_open 35 = .ok (.getfield 24, 3) := by decide +kernel
theorem dX3_open_38 : decode cX3_open 38 = .ok (.aload_n 0, 1) := by decide +kernel
theorem dX3_open_39 : decode cX3_open 39 = .ok (.getfield 27, 3) := by decide +kernel
theorem dX3_open_42 : decode cX3_open 42 = .ok (.iload_n 1, 1) := by decide +kernel
theorem dX3_open_43 : decode cX3_open 43 = .ok (.iastore, 1) := by decide +kernel
theorem dX3_open_44 : decode cX3_open 44 = .ok (.aload_n 0, 1) := by decide +kernel
theorem dX3_open_45 : decode cX3_open 45 = .ok (.dup, 1) := by decide +kernel
theorem dX3_open_46 : decode cX3_open 46 = .ok (.getfield 27, 3) := by decide +kernel
theorem dX3_open_49 : decode cX3_open 49 = .ok (.iconst 1, 1) := by decide +kernel
theorem dX3_open_50 : decode cX3_open 50 = .ok (.iadd, 1) := by decide +kernel
theorem dX3_open_51 : decode cX3_open 51 = .ok (.putfield 27, 3) := by decide +kernel
theorem dX3_open_54 : decode cX3_open 54 = .ok (.aload_n 0, 1) := by decide +kernel
theorem dX3_open_55 : decode cX3_open 55 = .ok (.getfield 14, 3) := by decide +kernel
theorem dX3_open_58 : decode cX3_open 58 = .ok (.iload_n 2, 1) := by decide +kernel
theorem dX3_open_59 : decode cX3_open 59 = .ok (.iload_n 1, 1) := by decide +kernel
theorem dX3_open_60 : decode cX3_open 60 = .ok (.iadd, 1) := by decide +kernel
theorem dX3_open_61 : decode cX3_open 61 = .ok (.putfield 31, 3) := by decide +kernel
theorem dX3_open_64 : decode cX3_open 64 = .ok (.iload_n 2, 1) := by decide +kernel
theorem dX3_open_65 : decode cX3_open 65 = .ok (.ireturn, 1) := by decide +kernel
theorem dX3_sizeOf_0 : decode cX3_sizeOf 0 = .ok (.iload_n 1, 1) := by decide +kernel
theorem dX3_sizeOf_1 : decode cX3_sizeOf 1 = .ok (.ifCond .lt 29, 3) := by decide +kernel
theorem dX3_sizeOf_4 : decode cX3_sizeOf 4 = .ok (.iload_n 1, 1) := by decide +kernel
theorem dX3_sizeOf_5 : decode cX3_sizeOf 5 = .ok (.aload_n 0, 1) := by decide +kernel
theorem dX3_sizeOf_6 : decode cX3_sizeOf 6 = .ok (.getfield 27, 3) := by decide +kernel
theorem dX3_sizeOf_9 : decode cX3_sizeOf 9 = .ok (.if_icmp .ge 21, 3) := by decide +kernel
theorem dX3_sizeOf_12 : decode cX3_sizeOf 12 = .ok (.iload_n 1, 1) := by decide +kernel
theorem dX3_sizeOf_13 : decode cX3_sizeOf 13 = .ok (.aload_n 0, 1) := by decide +kernel
theorem dX3_sizeOf_14 : decode cX3_sizeOf 14 = .ok (.getfield 24, 3) := by decide +kernel
theorem dX3_sizeOf_17 : decode cX3_sizeOf 17 = .ok (.arraylength, 1) := by decide +kernel
theorem dX3_sizeOf_18 : decode cX3_sizeOf 18 = .ok (.if_icmp .ge 12, 3) := by decide +kernel
theorem dX3_sizeOf_21 : decode cX3_sizeOf 21 = .ok (.aload_n 0, 1) := by decide +kernel
theorem dX3_sizeOf_22 : decode cX3_sizeOf 22 = .ok (.getfield 24, 3) := by decide +kernel
theorem dX3_sizeOf_25 : decode cX3_sizeOf 25 = .ok (.iload_n 1, 1) := by decide +kernel
theorem dX3_sizeOf_26 : decode cX3_sizeOf 26 = .ok (.iaload, 1) := by decide +kernel
theorem dX3_sizeOf_27 : decode cX3_sizeOf 27 = .ok (.goto 4, 3) := by decide +kernel
theorem dX3_sizeOf_30 : decode cX3_sizeOf 30 = .ok (.iconst (-1), 1) := by decide +kernel
theorem dX3_sizeOf_31 : decode cX3_sizeOf 31 = .ok (.ireturn, 1) := by decide +kernel
theorem dX3_startOf_0 : decode cX3_startOf 0 = .ok (.iload_n 1, 1) := by decide +kernel
theorem dX3_startOf_1 : decode cX3_startOf 1 = .ok (.ifCond .lt 29, 3) := by decide +kernel
theorem dX3_startOf_4 : decode cX3_startOf 4 = .ok (.iload_n 1, 1) := by decide +kernel
theorem dX3_startOf_5 : decode cX3_startOf 5 = .ok (.aload_n 0, 1) := by decide +kernel
theorem dX3_startOf_6 : decode cX3_startOf 6 = .ok (.getfield 27, 3) := by decide +kernel
theorem dX3_startOf_9 : decode cX3_startOf 9 = .ok (.if_icmp .ge 21, 3) := by decide +kernel
theorem dX3_startOf_12 : decode cX3_startOf 12 = .ok (.iload_n 1, 1) := by decide +kernel
theorem dX3_startOf_13 : decode cX3_startOf 13 = .ok (.aload_n 0, 1) := by decide +kernel
theorem dX3_startOf_14 : decode cX3_startOf 14 = .ok (.getfield 20, 3) := by decide +kernel
theorem dX3_startOf_17 : decode cX3_startOf 17 = .ok (.arraylength, 1) := by decide +kernel
theorem dX3_startOf_18 : decode cX3_startOf 18 = .ok (.if_icmp .ge 12, 3) := by decide +kernel
theorem dX3_startOf_21 : decode cX3_startOf 21 = .ok (.aload_n 0, 1) := by decide +kernel
theorem dX3_startOf_22 : decode cX3_startOf 22 = .ok (.getfield 20, 3) := by decide +kernel
theorem dX3_startOf_25 : decode cX3_startOf 25 = .ok (.iload_n 1, 1) := by decide +kernel
theorem dX3_startOf_26 : decode cX3_startOf 26 = .ok (.iaload, 1) := by decide +kernel
theorem dX3_startOf_27 : decode cX3_startOf 27 = .ok (.goto 4, 3) := by decide +kernel
theorem dX3_startOf_30 : decode cX3_startOf 30 = .ok (.iconst (-1), 1) := by decide +kernel
theorem dX3_startOf_31 : decode cX3_startOf 31 = .ok (.ireturn, 1) := by decide +kernel
theorem dX4_init_0 : decode cX4_init 0 = .ok (.aload_n 0, 1) := by decide +kernel
theorem dX4_init_1 : decode cX4_init 1 = .ok (.invokespecial 1, 3) := by decide +kernel
theorem dX4_init_4 : decode cX4_init 4 = .ok (.aload_n 0, 1) := by decide +kernel
theorem dX4_init_5 : decode cX4_init 5 = .ok (.aload_n 1, 1) := by decide +kernel
theorem dX4_init_6 : decode cX4_init 6 = .ok (.putfield 7, 3) := by decide +kernel
theorem dX4_init_9 : decode cX4_init 9 = .ok (.return_, 1) := by decide +kernel
theorem dX4_at_0 : decode cX4_at 0 = .ok (.iload_n 1, 1) := by decide +kernel
theorem dX4_at_1 : decode cX4_at 1 = .ok (.ifCond .lt 25, 3) := by decide +kernel
theorem dX4_at_4 : decode cX4_at 4 = .ok (.iload_n 1, 1) := by decide +kernel
theorem dX4_at_5 : decode cX4_at 5 = .ok (.aload_n 0, 1) := by decide +kernel
theorem dX4_at_6 : decode cX4_at 6 = .ok (.getfield 7, 3) := by decide +kernel
theorem dX4_at_9 : decode cX4_at 9 = .ok (.arraylength, 1) := by decide +kernel
theorem dX4_at_10 : decode cX4_at 10 = .ok (.if_icmp .ge 16, 3) := by decide +kernel
theorem dX4_at_13 : decode cX4_at 13 = .ok (.aload_n 0, 1) := by decide +kernel
theorem dX4_at_14 : decode cX4_at 14 = .ok (.getfield 7, 3) := by decide +kernel
theorem dX4_at_17 : decode cX4_at 17 = .ok (.iload_n 1, 1) := by decide +kernel
theorem dX4_at_18 : decode cX4_at 18 = .ok (.baload, 1) := by decide +kernel
theorem dX4_at_19 : decode cX4_at 19 = .ok (.sipush 255, 3) := by decide +kernel
theorem dX4_at_22 : decode cX4_at 22 = .ok (.iand, 1) := by decide +kernel
theorem dX4_at_23 : decode cX4_at 23 = .ok (.goto 4, 3) := by decide +kernel
theorem dX4_at_26 : decode cX4_at 26 = .ok (.iconst 0, 1) := by decide +kernel
theorem dX4_at_27 : decode cX4_at 27 = .ok (.ireturn, 1) := by decide +kernel
theorem dX4_word_0 : decode cX4_word 0 = .ok (.iload_n 1, 1) := by decide +kernel
theorem dX4_word_1 : decode cX4_word 1 = .ok (.ifCond .lt 43, 3) := by decide +kernel
theorem dX4_word_4 : decode cX4_word 4 = .ok (.iload_n 1, 1) := by decide +kernel
theorem dX4_word_5 : decode cX4_word 5 = .ok (.aload_n 0, 1) := by decide +kernel
theorem dX4_word_6 : decode cX4_word 6 = .ok (.getfield 7, 3) := by decide +kernel
theorem dX4_word_9 : decode cX4_word 9 = .ok (.arraylength, 1) := by decide +kernel
theorem dX4_word_10 : decode cX4_word 10 = .ok (.iconst 1, 1) := by decide +kernel
theorem dX4_word_11 : decode cX4_word 11 = .ok (.isub, 1) := by decide +kernel
theorem dX4_word_12 : decode cX4_word 12 = .ok (.if_icmp .ge 32, 3) := by decide +kernel
theorem dX4_word_15 : decode cX4_word 15 = .ok (.aload_n 0, 1) := by decide +kernel
theorem dX4_word_16 : decode cX4_word 16 = .ok (.getfield 7, 3) := by decide +kernel
theorem dX4_word_19 : decode cX4_word 19 = .ok (.iload_n 1, 1) := by decide +kernel
theorem dX4_word_20 : decode cX4_word 20 = .ok (.baload, 1) := by decide +kernel
theorem dX4_word_21 : decode cX4_word 21 = .ok (.sipush 255, 3) := by decide +kernel
theorem dX4_word_24 : decode cX4_word 24 = .ok (.iand, 1) := by decide +kernel
theorem dX4_word_25 : decode cX4_word 25 = .ok (.bipush 8, 2) := by decide +kernel
theorem dX4_word_27 : decode cX4_word 27 = .ok (.ishl, 1) := by decide +kernel
theorem dX4_word_28 : decode cX4_word 28 = .ok (.aload_n 0, 1) := by decide +kernel
theorem dX4_word_29 : decode cX4_word 29 = .ok (.getfield 7, 3) := by decide +kernel
theorem dX4_word_32 : decode cX4_word 32 = .ok (.iload_n 1, 1) := by decide +kernel
theorem dX4_word_33 : decode cX4_word 33 = .ok (.iconst 1, 1) := by decide +kernel
theorem dX4_word_34 : decode cX4_word 34 = .ok (.iadd, 1) := by decide +kernel
theorem dX4_word_35 : decode cX4_word 35 = .ok (.baload, 1) := by decide +kernel
theorem dX4_word_36 : decode cX4_word 36 = .ok (.sipush 255, 3) := by decide +kernel
theorem dX4_word_39 : decode cX4_word 39 = .ok (.iand, 1) := by decide +kernel
theorem dX4_word_40 : decode cX4_word 40 = .ok (.ior, 1) := by decide +kernel
theorem dX4_word_41 : decode cX4_word 41 = .ok (.goto 4, 3) := by decide +kernel
theorem dX4_word_44 : decode cX4_word 44 = .ok (.iconst 0, 1) := by decide +kernel
theorem dX4_word_45 : decode cX4_word 45 = .ok (.ireturn, 1) := by decide +kernel
theorem dX4_number_0 : decode cX4_number 0 = .ok (.lconst 0, 1) := by decide +kernel
theorem dX4_number_1 : decode cX4_number 1 = .ok (.lstore_n 3, 1) := by decide +kernel
theorem dX4_number_2 : decode cX4_number 2 = .ok (.iconst 0, 1) := by decide +kernel
theorem dX4_number_3 : decode cX4_number 3 = .ok (.istore 5, 2) := by decide +kernel
theorem dX4_number_5 : decode cX4_number 5 = .ok (.iload 5, 2) := by decide +kernel
theorem dX4_number_7 : decode cX4_number 7 = .ok (.iload_n 2, 1) := by decide +kernel
theorem dX4_number_8 : decode cX4_number 8 = .ok (.if_icmp .ge 24, 3) := by decide +kernel
theorem dX4_number_11 : decode cX4_number 11 = .ok (.lload_n 3, 1) := by decide +kernel
theorem dX4_number_12 : decode cX4_number 12 = .ok (.bipush 8, 2) := by decide +kernel
theorem dX4_number_14 : decode cX4_number 14 = .ok (.lshl, 1) := by decide +kernel
theorem dX4_number_15 : decode cX4_number 15 = .ok (.aload_n 0, 1) := by decide +kernel
theorem dX4_number_16 : decode cX4_number 16 = .ok (.iload_n 1, 1) := by decide +kernel
theorem dX4_number_17 : decode cX4_number 17 = .ok (.iload 5, 2) := by decide +kernel
theorem dX4_number_19 : decode cX4_number 19 = .ok (.iadd, 1) := by decide +kernel
theorem dX4_number_20 : decode cX4_number 20 = .ok (.invokevirtual 13, 3) := by decide +kernel
theorem dX4_number_23 : decode cX4_number 23 = .ok (.i2l, 1) := by decide +kernel
theorem dX4_number_24 : decode cX4_number 24 = .ok (.lor, 1) := by decide +kernel
theorem dX4_number_25 : decode cX4_number 25 = .ok (.lstore_n 3, 1) := by decide +kernel
theorem dX4_number_26 : decode cX4_number 26 = .ok (.iinc 5 1, 3) := by decide +kernel
theorem dX4_number_29 : decode cX4_number 29 = .ok (.goto (-24), 3) := by decide +kernel
theorem dX4_number_32 : decode cX4_number 32 = .ok (.lload_n 3, 1) := by decide +kernel
theorem dX4_number_33 : decode cX4_number 33 = .ok (.lreturn, 1) := by decide +kernel
theorem dX4_put_0 : decode cX4_put 0 = .ok (.iconst 0, 1) := by decide +kernel
theorem dX4_put_1 : decode cX4_put 1 = .ok (.istore 5, 2) := by decide +kernel
theorem dX4_put_3 : decode cX4_put 3 = .ok (.iload 5, 2) := by decide +kernel
theorem dX4_put_5 : decode cX4_put 5 = .ok (.iload_n 2, 1) := by decide +kernel
theorem dX4_put_6 : decode cX4_put 6 = .ok (.if_icmp .ge 50, 3) := by decide +kernel
theorem dX4_put_9 : decode cX4_put 9 = .ok (.iload_n 1, 1) := by decide +kernel
theorem dX4_put_10 : decode cX4_put 10 = .ok (.iload 5, 2) := by decide +kernel
theorem dX4_put_12 : decode cX4_put 12 = .ok (.iadd, 1) := by decide +kernel
theorem dX4_put_13 : decode cX4_put 13 = .ok (.istore 6, 2) := by decide +kernel
theorem dX4_put_15 : decode cX4_put 15 = .ok (.iload 6, 2) := by decide +kernel
theorem dX4_put_17 : decode cX4_put 17 = .ok (.ifCond .lt 33, 3) := by decide +kernel
theorem dX4_put_20 : decode cX4_put 20 = .ok (.iload 6, 2) := by decide +kernel
theorem dX4_put_22 : decode cX4_put 22 = .ok (.aload_n 0, 1) := by decide +kernel
theorem dX4_put_23 : decode cX4_put 23 = .ok (.getfield 7, 3) := by decide +kernel
theorem dX4_put_26 : decode cX4_put 26 = .ok (.arraylength, 1) := by decide +kernel
theorem dX4_put_27 : decode cX4_put 27 = .ok (.if_icmp .ge 23, 3) := by decide +kernel
theorem dX4_put_30 : decode cX4_put 30 = .ok (.aload_n 0, 1) := by decide +kernel
theorem dX4_put_31 : decode cX4_put 31 = .ok (.getfield 7, 3) := by decide +kernel
theorem dX4_put_34 : decode cX4_put 34 = .ok (.iload 6, 2) := by decide +kernel
theorem dX4_put_36 : decode cX4_put 36 = .ok (.lload_n 3, 1) := by decide +kernel
theorem dX4_put_37 : decode cX4_put 37 = .ok (.bipush 8, 2) := by decide +kernel
theorem dX4_put_39 : decode cX4_put 39 = .ok (.iload_n 2, 1) := by decide +kernel
theorem dX4_put_40 : decode cX4_put 40 = .ok (.iconst 1, 1) := by decide +kernel
theorem dX4_put_41 : decode cX4_put 41 = .ok (.isub, 1) := by decide +kernel
theorem dX4_put_42 : decode cX4_put 42 = .ok (.iload 5, 2) := by decide +kernel
theorem dX4_put_44 : decode cX4_put 44 = .ok (.isub, 1) := by decide +kernel
theorem dX4_put_45 : decode cX4_put 45 = .ok (.imul, 1) := by decide +kernel
theorem dX4_put_46 : decode cX4_put 46 = .ok (.lushr, 1) := by decide +kernel
theorem dX4_put_47 : decode cX4_put 47 = .ok (.l2i, 1) := by decide +kernel
theorem dX4_put_48 : decode cX4_put 48 = .ok (.i2b, 1) := by decide +kernel
theorem dX4_put_49 : decode cX4_put 49 = .ok (.bastore, 1) := by decide +kernel
theorem dX4_put_50 : decode cX4_put 50 = .ok (.iinc 5 1, 3) := by decide +kernel
theorem dX4_put_53 : decode cX4_put 53 = .ok (.goto (-50), 3) := by decide +kernel
theorem dX4_put_56 : decode cX4_put 56 = .ok (.return_, 1) := by decide +kernel
theorem dX4_copy_0 : decode cX4_copy 0 = .ok (.iload 4, 2) := by decide +kernel
theorem dX4_copy_2 : decode cX4_copy 2 = .ok (.ifCond .le 23, 3) := by decide +kernel
theorem dX4_copy_5 : decode cX4_copy 5 = .ok (.iload_n 2, 1) := by decide +kernel
theorem dX4_copy_6 : decode cX4_copy 6 = .ok (.ifCond .lt 19, 3) := by decide +kernel
theorem dX4_copy_9 : decode cX4_copy 9 = .ok (.iload_n 2, 1) := by decide +kernel
theorem dX4_copy_10 : decode cX4_copy 10 = .ok (.aload_n 1, 1) := by decide +kernel
theorem dX4_copy_11 : decode cX4_copy 11 = .ok (.getfield 7, 3) := by decide +kernel
theorem dX4_copy_14 : decode cX4_copy 14 = .ok (.arraylength, 1) := by decide +kernel
theorem dX4_copy_15 : decode cX4_copy 15 = .ok (.iload 4, 2) := by decide +kernel
theorem dX4_copy_17 : decode cX4_copy 17 = .ok (.isub, 1) := by decide +kernel
theorem dX4_copy_18 : decode cX4_copy 18 = .ok (.if_icmp .gt 7, 3) := by decide +kernel
theorem dX4_copy_21 : decode cX4_copy 21 = .ok (.iconst 1, 1) := by decide +kernel
theorem dX4_copy_22 : decode cX4_copy 22 = .ok (.goto 4, 3) := by decide +kernel
theorem dX4_copy_25 : decode cX4_copy 25 = .ok (.iconst 0, 1) := by decide +kernel
theorem dX4_copy_26 : decode cX4_copy 26 = .ok (.istore 5, 2) := by decide +kernel
theorem dX4_copy_28 : decode cX4_copy 28 = .ok (.iload 5, 2) := by decide +kernel
theorem dX4_copy_30 : decode cX4_copy 30 = .ok (.ifCond .eq 34, 3) := by decide +kernel
theorem dX4_copy_33 : decode cX4_copy 33 = .ok (.iload_n 3, 1) := by decide +kernel
theorem dX4_copy_34 : decode cX4_copy 34 = .ok (.ifCond .lt 30, 3) := by decide +kernel
theorem dX4_copy_37 : decode cX4_copy 37 = .ok (.iload_n 3, 1) := by decide +kernel
theorem dX4_copy_38 : decode cX4_copy 38 = .ok (.aload_n 0, 1) := by decide +kernel
theorem dX4_copy_39 : decode cX4_copy 39 = .ok (.getfield 7, 3) := by decide +kernel
theorem dX4_copy_42 : decode cX4_copy 42 = .ok (.arraylength, 1) := by decide +kernel
theorem dX4_copy_43 : decode cX4_copy 43 = .ok (.iload 4, 2) := by decide +kernel
theorem dX4_copy_45 : decode cX4_copy 45 = .ok (.isub, 1) := by decide +kernel
theorem dX4_copy_46 : decode cX4_copy 46 = .ok (.if_icmp .gt 18, 3) := by decide +kernel
theorem dX4_copy_49 : decode cX4_copy 49 = .ok (.aload_n 1, 1) := by decide +kernel
theorem dX4_copy_50 : decode cX4_copy 50 = .ok (.getfield 7, 3) := by decide +kernel
theorem dX4_copy_53 : decode cX4_copy 53 = .ok (.iload_n 2, 1) := by decide +kernel
theorem dX4_copy_54 : decode cX4_copy 54 = .ok (.aload_n 0, 1) := by decide +kernel
theorem dX4_copy_55 : decode cX4_copy 55 = .ok (.getfield 7, 3) := by decide +kernel
theorem dX4_copy_58 : decode cX4_copy 58 = .ok (.iload_n 3, 1) := by decide +kernel
theorem dX4_copy_59 : decode cX4_copy 59 = .ok (.iload 4, 2) := by decide +kernel
theorem dX4_copy_61 : decode cX4_copy 61 = .ok (.invokestatic 17, 3) := by decide +kernel
theorem dX4_copy_64 : decode cX4_copy 64 = .ok (.return_, 1) := by decide +kernel
theorem dX4_sum_0 : decode cX4_sum 0 = .ok (.lconst 0, 1) := by decide +kernel
theorem dX4_sum_1 : decode cX4_sum 1 = .ok (.lstore_n 3, 1) := by decide +kernel
theorem dX4_sum_2 : decode cX4_sum 2 = .ok (.iload_n 1, 1) := by decide +kernel
theorem dX4_sum_3 : decode cX4_sum 3 = .ok (.istore 5, 2) := by decide +kernel
theorem dX4_sum_5 : decode cX4_sum 5 = .ok (.iload 5, 2) := by decide +kernel
theorem dX4_sum_7 : decode cX4_sum 7 = .ok (.iload_n 2, 1) := by decide +kernel
theorem dX4_sum_8 : decode cX4_sum 8 = .ok (.if_icmp .ge 41, 3) := by decide +kernel
theorem dX4_sum_11 : decode cX4_sum 11 = .ok (.aload_n 0, 1) := by decide +kernel
theorem dX4_sum_12 : decode cX4_sum 12 = .ok (.iload 5, 2) := by decide +kernel
theorem dX4_sum_14 : decode cX4_sum 14 = .ok (.invokevirtual 13, 3) := by decide +kernel
theorem dX4_sum_17 : decode cX4_sum 17 = .ok (.istore 6, 2) := by decide +kernel
theorem dX4_sum_19 : decode cX4_sum 19 = .ok (.lload_n 3, 1) := by decide +kernel
theorem dX4_sum_20 : decode cX4_sum 20 = .ok (.iload 5, 2) := by decide +kernel
theorem dX4_sum_22 : decode cX4_sum 22 = .ok (.iload_n 1, 1) := by decide +kernel
theorem dX4_sum_23 : decode cX4_sum 23 = .ok (.isub, 1) := by decide +kernel
theorem dX4_sum_24 : decode cX4_sum 24 = .ok (.iconst 1, 1) := by decide +kernel
theorem dX4_sum_25 : decode cX4_sum 25 = .ok (.iand, 1) := by decide +kernel
theorem dX4_sum_26 : decode cX4_sum 26 = .ok (.ifCond .ne 12, 3) := by decide +kernel
theorem dX4_sum_29 : decode cX4_sum 29 = .ok (.iload 6, 2) := by decide +kernel
theorem dX4_sum_31 : decode cX4_sum 31 = .ok (.bipush 8, 2) := by decide +kernel
theorem dX4_sum_33 : decode cX4_sum 33 = .ok (.ishl, 1) := by decide +kernel
theorem dX4_sum_34 : decode cX4_sum 34 = .ok (.i2l, 1) := by decide +kernel
theorem dX4_sum_35 : decode cX4_sum 35 = .ok (.goto 6, 3) := by decide +kernel
theorem dX4_sum_38 : decode cX4_sum 38 = .ok (.iload 6, 2) := by decide +kernel
theorem dX4_sum_40 : decode cX4_sum 40 = .ok (.i2l, 1) := by decide +kernel
theorem dX4_sum_41 : decode cX4_sum 41 = .ok (.ladd, 1) := by decide +kernel
theorem dX4_sum_42 : decode cX4_sum 42 = .ok (.lstore_n 3, 1) := by decide +kernel
theorem dX4_sum_43 : decode cX4_sum 43 = .ok (.iinc 5 1, 3) := by decide +kernel
theorem dX4_sum_46 : decode cX4_sum 46 = .ok (.goto (-41), 3) := by decide +kernel
theorem dX4_sum_49 : decode cX4_sum 49 = .ok (.lload_n 3, 1) := by decide +kernel
theorem dX4_sum_50 : decode cX4_sum 50 = .ok (.lreturn, 1) := by decide +kernel
theorem dX5_init_0 : decode cX5_init 0 = .ok (.aload_n 0, 1) := by decide +kernel
theorem dX5_init_1 : decode cX5_init 1 = .ok (.invokespecial 3, 3) := by decide +kernel
theorem dX5_init_4 : decode cX5_init 4 = .ok (.return_, 1) := by decide +kernel
theorem dX5_readWhole_0 : decode cX5_readWhole 0 = .ok (.aload_n 1, 1) := by decide +kernel
theorem dX5_readWhole_1 : decode cX5_readWhole 1 = .ok (.getfield 9, 3) := by decide +kernel
theorem dX5_readWhole_4 : decode cX5_readWhole 4 = .ok (.bipush 40, 2) := by decide +kernel
theorem dX5_readWhole_6 : decode cX5_readWhole 6 = .ok (.if_icmp .lt 31, 3) := by decide +kernel
theorem dX5_readWhole_9 : decode cX5_readWhole 9 = .ok (.bipush 40, 2) := by decide +kernel
theorem dX5_readWhole_11 : decode cX5_readWhole 11 = .ok (.aload_n 1, 1) := by decide +kernel
theorem dX5_readWhole_12 : decode cX5_readWhole 12 = .ok (.iconst 4, 1) := by decide +kernel
theorem dX5_readWhole_13 : decode cX5_readWhole 13 = .ok (.invokevirtual 15, 3) := by decide +kernel
theorem dX5_readWhole_16 : decode cX5_readWhole 16 = .ok (.iadd, 1) := by decide +kernel
theorem dX5_readWhole_17 : decode cX5_readWhole 17 = .ok (.aload_n 1, 1) := by decide +kernel
theorem dX5_readWhole_18 : decode cX5_readWhole 18 = .ok (.getfield 9, 3) := by decide +kernel
theorem dX5_readWhole_21 : decode cX5_readWhole 21 = .ok (.if_icmp .gt 16, 3) := by decide +kernel
theorem dX5_readWhole_24 : decode cX5_readWhole 24 = .ok (.aload_n 0, 1) := by decide +kernel
theorem dX5_readWhole_25 : decode cX5_readWhole 25 = .ok (.aload_n 1, 1) := by decide +kernel
theorem dX5_readWhole_26 : decode cX5_readWhole 26 = .ok (.iconst 0, 1) := by decide +kernel
theorem dX5_readWhole_27 : decode cX5_readWhole 27 = .ok (.aload_n 1, 1) := by decide +kernel
theorem dX5_readWhole_28 : decode cX5_readWhole 28 = .ok (.getfield 9, 3) := by decide +kernel
theorem dX5_readWhole_31 : decode cX5_readWhole 31 = .ok (.invokevirtual 19, 3) := by decide +kernel
theorem dX5_readWhole_34 : decode cX5_readWhole 34 = .ok (.ifCond .ne 5, 3) := by decide +kernel
theorem dX5_readWhole_37 : decode cX5_readWhole 37 = .ok (.iconst 0, 1) := by decide +kernel
theorem dX5_readWhole_38 : decode cX5_readWhole 38 = .ok (.ireturn, 1) := by decide +kernel
theorem dX5_readWhole_39 : decode cX5_readWhole 39 = .ok (.aload_n 0, 1) := by decide +kernel
theorem dX5_readWhole_40 : decode cX5_readWhole 40 = .ok (.getfield 25, 3) := by decide +kernel
theorem dX5_readWhole_43 : decode cX5_readWhole 43 = .ok (.ifCond .eq 13, 3) := by decide +kernel
theorem dX5_readWhole_46 : decode cX5_readWhole 46 = .ok (.aload_n 0, 1) := by decide +kernel
theorem dX5_readWhole_47 : decode cX5_readWhole 47 = .ok (.getfield 29, 3) := by decide +kernel
theorem dX5_readWhole_50 : decode cX5_readWhole 50 = .ok (.bipush 8, 2) := by decide +kernel
theorem dX5_readWhole_52 : decode cX5_readWhole 52 = .ok (.irem, 1) := by decide +kernel
theorem dX5_readWhole_53 : decode cX5_readWhole 53 = .ok (.ifCond .ne 14, 3) := by decide +kernel
theorem dX5_readWhole_56 : decode cX5_readWhole 56 = .ok (.aload_n 0, 1) := by decide +kernel
theorem dX5_readWhole_57 : decode cX5_readWhole 57 = .ok (.invokevirtual 30, 3) := by decide +kernel
theorem dX5_readWhole_60 : decode cX5_readWhole 60 = .ok (.ifCond .ne 7, 3) := by decide +kernel
theorem dX5_readWhole_63 : decode cX5_readWhole 63 = .ok (.iconst 1, 1) := by decide +kernel
theorem dX5_readWhole_64 : decode cX5_readWhole 64 = .ok (.goto 4, 3) := by decide +kernel
theorem dX5_readWhole_67 : decode cX5_readWhole 67 = .ok (.iconst 0, 1) := by decide +kernel
theorem dX5_readWhole_68 : decode cX5_readWhole 68 = .ok (.ireturn, 1) := by decide +kernel
theorem dX5_read_0 : decode cX5_read 0 = .ok (.iload_n 3, 1) := by decide +kernel
theorem dX5_read_1 : decode cX5_read 1 = .ok (.iload_n 2, 1) := by decide +kernel
theorem dX5_read_2 : decode cX5_read 2 = .ok (.isub, 1) := by decide +kernel
theorem dX5_read_3 : decode cX5_read 3 = .ok (.bipush 40, 2) := by decide +kernel
theorem dX5_read_5 : decode cX5_read 5 = .ok (.if_icmp .lt 15, 3) := by decide +kernel
theorem dX5_read_8 : decode cX5_read 8 = .ok (.aload_n 1, 1) := by decide +kernel
theorem dX5_read_9 : decode cX5_read 9 = .ok (.iload_n 2, 1) := by decide +kernel
theorem dX5_read_10 : decode cX5_read 10 = .ok (.invokevirtual 34, 3) := by decide +kernel
theorem dX5_read_13 : decode cX5_read 13 = .ok (.iconst 4, 1) := by decide +kernel
theorem dX5_read_14 : decode cX5_read 14 = .ok (.ishr, 1) := by decide +kernel
theorem dX5_read_15 : decode cX5_read 15 = .ok (.bipush 6, 2) := by decide +kernel
theorem dX5_read_17 : decode cX5_read 17 = .ok (.if_icmp .eq 5, 3) := by decide +kernel
theorem dX5_read_20 : decode cX5_read 20 = .ok (.iconst 0, 1) := by decide +kernel
theorem dX5_read_21 : decode cX5_read 21 = .ok (.ireturn, 1) := by decide +kernel
theorem dX5_read_22 : decode cX5_read 22 = .ok (.aload_n 0, 1) := by decide +kernel
theorem dX5_read_23 : decode cX5_read 23 = .ok (.iload_n 2, 1) := by decide +kernel
theorem dX5_read_24 : decode cX5_read 24 = .ok (.putfield 37, 3) := by decide +kernel
theorem dX5_read_27 : decode cX5_read 27 = .ok (.aload_n 0, 1) := by decide +kernel
theorem dX5_read_28 : decode cX5_read 28 = .ok (.aload_n 1, 1) := by decide +kernel
theorem dX5_read_29 : decode cX5_read 29 = .ok (.iload_n 2, 1) := by decide +kernel
theorem dX5_read_30 : decode cX5_read 30 = .ok (.invokevirtual 15, 3) := by decide +kernel
theorem dX5_read_33 : decode cX5_read 33 = .ok (.iconst 4, 1) := by decide +kernel
theorem dX5_read_34 : decode cX5_read 34 = .ok (.ishr, 1) := by decide +kernel
theorem dX5_read_35 : decode cX5_read 35 = .ok (.sipush 255, 3) := by decide +kernel
theorem dX5_read_38 : decode cX5_read 38 = .ok (.iand, 1) := by decide +kernel
theorem dX5_read_39 : decode cX5_read 39 = .ok (.putfield 39, 3) := by decide +kernel
theorem dX5_read_42 : decode cX5_read 42 = .ok (.aload_n 0, 1) := by decide +kernel
theorem dX5_read_43 : decode cX5_read 43 = .ok (.aload_n 1, 1) := by decide +kernel
theorem dX5_read_44 : decode cX5_read 44 = .ok (.iload_n 2, 1) := by decide +kernel
theorem dX5_read_45 : decode cX5_read 45 = .ok (.bipush 7, 2) := by decide +kernel
theorem dX5_read_47 : decode cX5_read 47 = .ok (.iadd, 1) := by decide +kernel
theorem dX5_read_48 : decode cX5_read 48 = .ok (.invokevirtual 34, 3) := by decide +kernel
theorem dX5_read_51 : decode cX5_read 51 = .ok (.putfield 42, 3) := by decide +kernel
theorem dX5_read_54 : decode cX5_read 54 = .ok (.aload_n 0, 1) := by decide +kernel
theorem dX5_read_55 : decode cX5_read 55 = .ok (.aload_n 1, 1) := by decide +kernel
theorem dX5_read_56 : decode cX5_read 56 = .ok (.iload_n 2, 1) := by decide +kernel
theorem dX5_read_57 : decode cX5_read 57 = .ok (.bipush 8, 2) := by decide +kernel
theorem dX5_read_59 : decode cX5_read 59 = .ok (.iadd, 1) := by decide +kernel
theorem dX5_read_60 : decode cX5_read 60 = .ok (.iload_n 2, 1) := by decide +kernel
theorem dX5_read_61 : decode cX5_read 61 = .ok (.bipush 40, 2) := by decide +kernel
theorem dX5_read_63 : decode cX5_read 63 = .ok (.iadd, 1) := by decide +kernel
theorem dX5_read_64 : decode cX5_read 64 = .ok (.invokevirtual 45, 3) := by decide +kernel
theorem dX5_read_67 : decode cX5_read 67 = .ok (.putfield 49, 3) := by decide +kernel
theorem dX5_read_70 : decode cX5_read 70 = .ok (.iload_n 2, 1) := by decide +kernel
theorem dX5_read_71 : decode cX5_read 71 = .ok (.bipush 40, 2) := by decide +kernel
theorem dX5_read_73 : decode cX5_read 73 = .ok (.iadd, 1) := by decide +kernel
theorem dX5_read_74 : decode cX5_read 74 = .ok (.aload_n 1, 1) := by decide +kernel
theorem dX5_read_75 : decode cX5_read 75 = .ok (.iload_n 2, 1) := by decide +kernel
theorem dX5_read_76 : decode cX5_read 76 = .ok (.iconst 4, 1) := by decide +kernel
theorem dX5_read_77 : decode cX5_read 77 = .ok (.iadd, 1) := by decide +kernel
theorem dX5_read_78 : decode cX5_read 78 = .ok (.invokevirtual 15, 3) := by decide +kernel
theorem dX5_read_81 : decode cX5_read 81 = .ok (.iadd, 1) := by decide +kernel
theorem dX5_read_82 : decode cX5_read 82 = .ok (.istore 4, 2) := by decide +kernel
theorem dX5_read_84 : decode cX5_read 84 = .ok (.iload_n 3, 1) := by decide +kernel
theorem dX5_read_85 : decode cX5_read 85 = .ok (.iload 4, 2) := by decide +kernel
theorem dX5_read_87 : decode cX5_read 87 = .ok (.invokestatic 53, 3) := by decide +kernel
theorem dX5_read_90 : decode cX5_read 90 = .ok (.istore 5, 2) := by decide +kernel
theorem dX5_read_92 : decode cX5_read 92 = .ok (.aload_n 0, 1) := by decide +kernel
theorem dX5_read_93 : decode cX5_read 93 = .ok (.aload_n 1, 1) := by decide +kernel
theorem dX5_read_94 : decode cX5_read 94 = .ok (.iload 5, 2) := by decide +kernel
theorem dX5_read_96 : decode cX5_read 96 = .ok (.invokevirtual 59, 3) := by decide +kernel
theorem dX5_read_99 : decode cX5_read 99 = .ok (.ifCond .ne 5, 3) := by decide +kernel
theorem dX5_read_102 : decode cX5_read 102 = .ok (.iconst 0, 1) := by decide +kernel
theorem dX5_read_103 : decode cX5_read 103 = .ok (.ireturn, 1) := by decide +kernel
theorem dX5_read_104 : decode cX5_read 104 = .ok (.aload_n 0, 1) := by decide +kernel
theorem dX5_read_105 : decode cX5_read 105 = .ok (.iload 4, 2) := by decide +kernel
theorem dX5_read_107 : decode cX5_read 107 = .ok (.aload_n 0, 1) := by decide +kernel
theorem dX5_read_108 : decode cX5_read 108 = .ok (.getfield 63, 3) := by decide +kernel
theorem dX5_read_111 : decode cX5_read 111 = .ok (.isub, 1) := by decide +kernel
theorem dX5_read_112 : decode cX5_read 112 = .ok (.putfield 29, 3) := by decide +kernel
theorem dX5_read_115 : decode cX5_read 115 = .ok (.aload_n 0, 1) := by decide +kernel
theorem dX5_read_116 : decode cX5_read 116 = .ok (.iload 5, 2) := by decide +kernel
theorem dX5_read_118 : decode cX5_read 118 = .ok (.aload_n 0, 1) := by decide +kernel
theorem dX5_read_119 : decode cX5_read 119 = .ok (.getfield 63, 3) := by decide +kernel
theorem dX5_read_122 : decode cX5_read 122 = .ok (.isub, 1) := by decide +kernel
theorem dX5_read_123 : decode cX5_read 123 = .ok (.putfield 66, 3) := by decide +kernel
theorem dX5_read_126 : decode cX5_read 126 = .ok (.iconst 1, 1) := by decide +kernel
theorem dX5_read_127 : decode cX5_read 127 = .ok (.ireturn, 1) := by decide +kernel
theorem dX5_readHeaders_0 : decode cX5_readHeaders 0 = .ok (.aload_n 1, 1) := by decide +kernel
theorem dX5_readHeaders_1 : decode cX5_readHeaders 1 = .ok (.aload_n 0, 1) := by decide +kernel
theorem dX5_readHeaders_2 : decode cX5_readHeaders 2 = .ok (.getfield 37, 3) := by decide +kernel
theorem dX5_readHeaders_5 : decode cX5_readHeaders 5 = .ok (.bipush 6, 2) := by decide +kernel
theorem dX5_readHeaders_7 : decode cX5_readHeaders 7 = .ok (.iadd, 1) := by decide +kernel
theorem dX5_readHeaders_8 : decode cX5_readHeaders 8 = .ok (.invokevirtual 34, 3) := by decide +kernel
theorem dX5_readHeaders_11 : decode cX5_readHeaders 11 = .ok (.istore_n 3, 1) := by decide +kernel
theorem dX5_readHeaders_12 : decode cX5_readHeaders 12 = .ok (.aload_n 0, 1) := by decide +kernel
theorem dX5_readHeaders_13 : decode cX5_readHeaders 13 = .ok (.getfield 37, 3) := by decide +kernel
theorem dX5_readHeaders_16 : decode cX5_readHeaders 16 = .ok (.bipush 40, 2) := by decide +kernel
theorem dX5_readHeaders_18 : decode cX5_readHeaders 18 = .ok (.iadd, 1) := by decide +kernel
theorem dX5_readHeaders_19 : decode cX5_readHeaders 19 = .ok (.istore 4, 2) := by decide +kernel
theorem dX5_readHeaders_21 : decode cX5_readHeaders 21 = .ok (.aload_n 0, 1) := by decide +kernel
theorem dX5_readHeaders_22 : decode cX5_readHeaders 22 = .ok (.invokevirtual 69, 3) := by decide +kernel
theorem dX5_readHeaders_25 : decode cX5_readHeaders 25 = .ok (.iconst 0, 1) := by decide +kernel
theorem dX5_readHeaders_26 : decode cX5_readHeaders 26 = .ok (.istore 5, 2) := by decide +kernel
theorem dX5_readHeaders_28 : decode cX5_readHeaders 28 = .ok (.iload 5, 2) := by decide +kernel
theorem dX5_readHeaders_30 : decode cX5_readHeaders 30 = .ok (.sipush 300, 3) := by decide +kernel
theorem dX5_readHeaders_33 : decode cX5_readHeaders 33 = .ok (.if_icmp .ge 139, 3) := by decide +kernel
theorem dX5_readHeaders_36 : decode cX5_readHeaders 36 = .ok (.iload_n 3, 1) := by decide +kernel
theorem dX5_readHeaders_37 : decode cX5_readHeaders 37 = .ok (.invokestatic 72, 3) := by decide +kernel
theorem dX5_readHeaders_40 : decode cX5_readHeaders 40 = .ok (.ifCond .eq 132, 3) := by decide +kernel
theorem dX5_readHeaders_43 : decode cX5_readHeaders 43 = .ok (.aload_n 0, 1) := by decide +kernel
theorem dX5_readHeaders_44 : decode cX5_readHeaders 44 = .ok (.getfield 76, 3) := by decide +kernel
theorem dX5_readHeaders_47 : decode cX5_readHeaders 47 = .ok (.ifCond .ne 125, 3) := by decide +kernel
theorem dX5_readHeaders_50 : decode cX5_readHeaders 50 = .ok (.iload_n 3, 1) := by decide +kernel
theorem dX5_readHeaders_51 : decode cX5_readHeaders 51 = .ok (.bipush 44, 2) := by decide +kernel
theorem dX5_readHeaders_53 : decode cX5_readHeaders 53 = .ok (.if_icmp .ne 8, 3) := by decide +kernel
theorem dX5_readHeaders_56 : decode cX5_readHeaders 56 = .ok (.bipush 8, 2) := by decide +kernel
theorem dX5_readHeaders_58 : decode cX5_readHeaders 58 = .ok (.goto 17, 3) := by decide +kernel
theorem dX5_readHeaders_61 : decode cX5_readHeaders 61 = .ok (.bipush 8, 2) := by decide +kernel
theorem dX5_readHeaders_63 : decode cX5_readHeaders 63 = .ok (.bipush 8, 2) := by decide +kernel
theorem dX5_readHeaders_65 : decode cX5_readHeaders 65 = .ok (.aload_n 1, 1) := by decide +kernel
theorem dX5_readHeaders_66 : decode cX5_readHeaders 66 = .ok (.iload 4, 2) := by decide +kernel
theorem dX5_readHeaders_68 : decode cX5_readHeaders 68 = .ok (.iconst 1, 1) := by decide +kernel
theorem dX5_readHeaders_69 : decode cX5_readHeaders 69 = .ok (.iadd, 1) := by decide +kernel
theorem dX5_readHeaders_70 : decode cX5_readHeaders 70 = .ok (.invokevirtual 34, 3) := by decide +kernel
theorem dX5_readHeaders_73 : decode cX5_readHeaders 73 = .ok (.imul, 1) := by decide +kernel
theorem dX5_readHeaders_74 : decode cX5_readHeaders 74 = .ok (.iadd, 1) := by decide +kernel
theorem dX5_readHeaders_75 : decode cX5_readHeaders 75 = .ok (.istore 6, 2) := by decide +kernel
theorem dX5_readHeaders_77 : decode cX5_readHeaders 77 = .ok (.iload 4, 2) := by decide +kernel
theorem dX5_readHeaders_79 : decode cX5_readHeaders 79 = .ok (.iload 6, 2) := by decide +kernel
theorem dX5_readHeaders_81 : decode cX5_readHeaders 81 = .ok (.iadd, 1) := by decide +kernel
theorem dX5_readHeaders_82 : decode cX5_readHeaders 82 = .ok (.iload_n 2, 1) := by decide +kernel
theorem dX5_readHeaders_83 : decode cX5_readHeaders 83 = .ok (.if_icmp .gt 16, 3) := by decide +kernel
theorem dX5_readHeaders_86 : decode cX5_readHeaders 86 = .ok (.iload_n 3, 1) := by decide +kernel
theorem dX5_readHeaders_87 : decode cX5_readHeaders 87 = .ok (.bipush 44, 2) := by decide +kernel
theorem dX5_readHeaders_89 : decode cX5_readHeaders 89 = .ok (.if_icmp .ne 12, 3) := by decide +kernel
theorem dX5_readHeaders_92 : decode cX5_readHeaders 92 = .ok (.aload_n 0, 1) := by decide +kernel
theorem dX5_readHeaders_93 : decode cX5_readHeaders 93 = .ok (.getfield 79, 3) := by decide +kernel
theorem dX5_readHeaders_96 : decode cX5_readHeaders 96 = .ok (.ifCond .eq 5, 3) := by decide +kernel
theorem dX5_readHeaders_99 : decode cX5_readHeaders 99 = .ok (.iconst 0, 1) := by decide +kernel
theorem dX5_readHeaders_100 : decode cX5_readHeaders 100 = .ok (.ireturn, 1) := by decide +kernel
theorem dX5_readHeaders_101 : decode cX5_readHeaders 101 = .ok (.iload_n 3, 1) := by decide +kernel
theorem dX5_readHeaders_102 : decode cX5_readHeaders 102 = .ok (.bipush 44, 2) := by decide +kernel
theorem dX5_readHeaders_104 : decode cX5_readHeaders 104 = .ok (.if_icmp .ne 10, 3) := by decide +kernel
theorem dX5_readHeaders_107 : decode cX5_readHeaders 107 = .ok (.aload_n 0, 1) := by decide +kernel
theorem dX5_readHeaders_108 : decode cX5_readHeaders 108 = .ok (.aload_n 1, 1) := by decide +kernel
theorem dX5_readHeaders_109 : decode cX5_readHeaders 109 = .ok (.iload 4, 2) := by decide +kernel
theorem dX5_readHeaders_111 : decode cX5_readHeaders 111 = .ok (.invokevirtual 82, 3) := by decide +kernel
theorem dX5_readHeaders_114 : decode cX5_readHeaders 114 = .ok (.iload_n 3, 1) := by decide +kernel
theorem dX5_readHeaders_115 : decode cX5_readHeaders 115 = .ok (.bipush 43, 2) := by decide +kernel
theorem dX5_readHeaders_117 : decode cX5_readHeaders 117 = .ok (.if_icmp .ne 35, 3) := by decide +kernel
theorem dX5_readHeaders_120 : decode cX5_readHeaders 120 = .ok (.aload_n 0, 1) := by decide +kernel
theorem dX5_readHeaders_121 : decode cX5_readHeaders 121 = .ok (.getfield 86, 3) := by decide +kernel
theorem dX5_readHeaders_124 : decode cX5_readHeaders 124 = .ok (.iconst (-1), 1) := by decide +kernel
theorem dX5_readHeaders_125 : decode cX5_readHeaders 125 = .ok (.if_icmp .ne 27, 3) := by decide +kernel
theorem dX5_readHeaders_128 : decode cX5_readHeaders 128 = .ok (.aload_n 1, 1) := by decide +kernel
theorem dX5_readHeaders_129 : decode cX5_readHeaders 129 = .ok (.iload 4, 2) := by decide +kernel
theorem dX5_readHeaders_131 : decode cX5_readHeaders 131 = .ok (.iconst 3, 1) := by decide +kernel
theorem dX5_readHeaders_132 : decode cX5_readHeaders 132 = .ok (.iadd, 1) := by decide +kernel
theorem dX5_readHeaders_133 : decode cX5_readHeaders 133 = .ok (.invokevirtual 34, 3) := by decide +kernel
theorem dX5_readHeaders_136 : decode cX5_readHeaders 136 = .ok (.ifCond .eq 16, 3) := by decide +kernel
theorem dX5_readHeaders_139 : decode cX5_readHeaders 139 = .ok (.aload_n 0, 1) := by decide +kernel
theorem dX5_readHeaders_140 : decode cX5_readHeaders 140 = .ok (.iload 4, 2) := by decide +kernel
theorem dX5_readHeaders_142 : decode cX5_readHeaders 142 = .ok (.iconst 3, 1) := by decide +kernel
theorem dX5_readHeaders_143 : decode cX5_readHeaders 143 = .ok (.iadd, 1) := by decide +kernel
theorem dX5_readHeaders_144 : decode cX5_readHeaders 144 = .ok (.aload_n 0, 1) := by decide +kernel
theorem dX5_readHeaders_145 : decode cX5_readHeaders 145 = .ok (.getfield 37, 3) := by decide +kernel
theorem dX5_readHeaders_148 : decode cX5_readHeaders 148 = .ok (.isub, 1) := by decide +kernel
theorem dX5_readHeaders_149 : decode cX5_readHeaders 149 = .ok (.putfield 86, 3) := by decide +kernel
theorem dX5_readHeaders_152 : decode cX5_readHeaders 152 = .ok (.aload_n 1, 1) := by decide +kernel
theorem dX5_readHeaders_153 : decode cX5_readHeaders 153 = .ok (.iload 4, 2) := by decide +kernel
theorem dX5_readHeaders_155 : decode cX5_readHeaders 155 = .ok (.invokevirtual 34, 3) := by decide +kernel
theorem dX5_readHeaders_158 : decode cX5_readHeaders 158 = .ok (.istore_n 3, 1) := by decide +kernel
theorem dX5_readHeaders_159 : decode cX5_readHeaders 159 = .ok (.iload 4, 2) := by decide +kernel
theorem dX5_readHeaders_161 : decode cX5_readHeaders 161 = .ok (.iload 6, 2) := by decide +kernel
theorem dX5_readHeaders_163 : decode cX5_readHeaders 163 = .ok (.iadd, 1) := by decide +kernel
theorem dX5_readHeaders_164 : decode cX5_readHeaders 164 = .ok (.istore 4, 2) := by decide +kernel
theorem dX5_readHeaders_166 : decode cX5_readHeaders 166 = .ok (.iinc 5 1, 3) := by decide +kernel
theorem dX5_readHeaders_169 : decode cX5_readHeaders 169 = .ok (.goto (-141), 3) := by decide +kernel
theorem dX5_readHeaders_172 : decode cX5_readHeaders 172 = .ok (.aload_n 0, 1) := by decide +kernel
theorem dX5_readHeaders_173 : decode cX5_readHeaders 173 = .ok (.iload_n 3, 1) := by decide +kernel
theorem dX5_readHeaders_174 : decode cX5_readHeaders 174 = .ok (.putfield 89, 3) := by decide +kernel
theorem dX5_readHeaders_177 : decode cX5_readHeaders 177 = .ok (.aload_n 0, 1) := by decide +kernel
theorem dX5_readHeaders_178 : decode cX5_readHeaders 178 = .ok (.iload 4, 2) := by decide +kernel
theorem dX5_readHeaders_180 : decode cX5_readHeaders 180 = .ok (.putfield 63, 3) := by decide +kernel
theorem dX5_readHeaders_183 : decode cX5_readHeaders 183 = .ok (.iconst 1, 1) := by decide +kernel
theorem dX5_readHeaders_184 : decode cX5_readHeaders 184 = .ok (.ireturn, 1) := by decide +kernel
theorem dX5_forgetHeaders_0 : decode cX5_forgetHeaders 0 = .ok (.aload_n 0, 1) := by decide +kernel
theorem dX5_forgetHeaders_1 : decode cX5_forgetHeaders 1 = .ok (.iconst 0, 1) := by decide +kernel
theorem dX5_forgetHeaders_2 : decode cX5_forgetHeaders 2 = .ok (.putfield 79, 3) := by decide +kernel
theorem dX5_forgetHeaders_5 : decode cX5_forgetHeaders 5 = .ok (.aload_n 0, 1) := by decide +kernel
theorem dX5_forgetHeaders_6 : decode cX5_forgetHeaders 6 = .ok (.iconst 0, 1) := by decide +kernel
theorem dX5_forgetHeaders_7 : decode cX5_forgetHeaders 7 = .ok (.putfield 25, 3) := by decide +kernel
theorem dX5_forgetHeaders_10 : decode cX5_forgetHeaders 10 = .ok (.aload_n 0, 1) := by decide +kernel
theorem dX5_forgetHeaders_11 : decode cX5_forgetHeaders 11 = .ok (.iconst 0, 1) := by decide +kernel
theorem dX5_forgetHeaders_12 : decode cX5_forgetHeaders 12 = .ok (.putfield 76, 3) := by decide +kernel
theorem dX5_forgetHeaders_15 : decode cX5_forgetHeaders 15 = .ok (.aload_n 0, 1) := by decide +kernel
theorem dX5_forgetHeaders_16 : decode cX5_forgetHeaders 16 = .ok (.iconst 0, 1) := by decide +kernel
theorem dX5_forgetHeaders_17 : decode cX5_forgetHeaders 17 = .ok (.putfield 92, 3) := by decide +kernel
theorem dX5_forgetHeaders_20 : decode cX5_forgetHeaders 20 = .ok (.aload_n 0, 1) := by decide +kernel
theorem dX5_forgetHeaders_21 : decode cX5_forgetHeaders 21 = .ok (.iconst (-1), 1) := by decide +kernel
theorem dX5_forgetHeaders_22 : decode cX5_forgetHeaders 22 = .ok (.putfield 86, 3) := by decide +kernel
theorem dX5_forgetHeaders_25 : decode cX5_forgetHeaders 25 = .ok (.return_, 1) := by decide +kernel
theorem dX5_readFragmentHeader_0 : decode cX5_readFragmentHeader 0 = .ok (.aload_n 0, 1) := by decide +kernel
theorem dX5_readFragmentHeader_1 : decode cX5_readFragmentHeader 1 = .ok (.iconst 1, 1) := by decide +kernel
theorem dX5_readFragmentHeader_2 : decode cX5_readFragmentHeader 2 = .ok (.putfield 79, 3) := by decide +kernel
theorem dX5_readFragmentHeader_5 : decode cX5_readFragmentHeader 5 = .ok (.aload_n 1, 1) := by decide +kernel
theorem dX5_readFragmentHeader_6 : decode cX5_readFragmentHeader 6 = .ok (.iload_n 2, 1) := by decide +kernel
theorem dX5_readFragmentHeader_7 : decode cX5_readFragmentHeader 7 = .ok (.iconst 2, 1) := by decide +kernel
theorem dX5_readFragmentHeader_8 : decode cX5_readFragmentHeader 8 = .ok (.iadd, 1) := by decide +kernel
theorem dX5_readFragmentHeader_9 : decode cX5_readFragmentHeader 9 = .ok (.invokevirtual 15, 3) := by decide +kernel
theorem dX5_readFragmentHeader_12 : decode cX5_readFragmentHeader 12 = .ok (.istore_n 3, 1) := by decide +kernel
theorem dX5_readFragmentHeader_13 : decode cX5_readFragmentHeader 13 = .ok (.aload_n 0, 1) := by decide +kernel
theorem dX5_readFragmentHeader_14 : decode cX5_readFragmentHeader 14 = .ok (.iload_n 3, 1) := by decide +kernel
theorem dX5_readFragmentHeader_15 : decode cX5_readFragmentHeader 15 = .ok (.iconst 3, 1) := by decide +kernel
theorem dX5_readFragmentHeader_16 : decode cX5_readFragmentHeader 16 = .ok (.ishr, 1) := by decide +kernel
theorem dX5_readFragmentHeader_17 : decode cX5_readFragmentHeader 17 = .ok (.putfield 76, 3) := by decide +kernel
theorem dX5_readFragmentHeader_20 : decode cX5_readFragmentHeader 20 = .ok (.aload_n 0, 1) := by decide +kernel
theorem dX5_readFragmentHeader_21 : decode cX5_readFragmentHeader 21 = .ok (.iload_n 3, 1) := by decide +kernel
theorem dX5_readFragmentHeader_22 : decode cX5_readFragmentHeader 22 = .ok (.iconst 1, 1) := by decide +kernel
theorem dX5_readFragmentHeader_23 : decode cX5_readFragmentHeader 23 = .ok (.iand, 1) := by decide +kernel
theorem dX5_readFragmentHeader_24 : decode cX5_readFragmentHeader 24 = .ok (.ifCond .eq 7, 3) := by decide +kernel
theorem dX5_readFragmentHeader_27 : decode cX5_readFragmentHeader 27 = .ok (.iconst 1, 1) := by decide +kernel
theorem dX5_readFragmentHeader_28 : decode cX5_readFragmentHeader 28 = .ok (.goto 4, 3) := by decide +kernel
theorem dX5_readFragmentHeader_31 : decode cX5_readFragmentHeader 31 = .ok (.iconst 0, 1) := by decide +kernel
theorem dX5_readFragmentHeader_32 : decode cX5_readFragmentHeader 32 = .ok (.putfield 25, 3) := by decide +kernel
theorem dX5_readFragmentHeader_35 : decode cX5_readFragmentHeader 35 = .ok (.aload_n 0, 1) := by decide +kernel
theorem dX5_readFragmentHeader_36 : decode cX5_readFragmentHeader 36 = .ok (.aload_n 1, 1) := by decide +kernel
theorem dX5_readFragmentHeader_37 : decode cX5_readFragmentHeader 37 = .ok (.iload_n 2, 1) := by decide +kernel
theorem dX5_readFragmentHeader_38 : decode cX5_readFragmentHeader 38 = .ok (.bipush 6, 2) := by decide +kernel
theorem dX5_readFragmentHeader_40 : decode cX5_readFragmentHeader 40 = .ok (.iadd, 1) := by decide +kernel
theorem dX5_readFragmentHeader_41 : decode cX5_readFragmentHeader 41 = .ok (.invokevirtual 15, 3) := by decide +kernel
theorem dX5_readFragmentHeader_44 : decode cX5_readFragmentHeader 44 = .ok (.putfield 92, 3) := by decide +kernel
theorem dX5_readFragmentHeader_47 : decode cX5_readFragmentHeader 47 = .ok (.return_, 1) := by decide +kernel
theorem dX5_isHeader_0 : decode cX5_isHeader 0 = .ok (.iload_n 0, 1) := by decide +kernel
theorem dX5_isHeader_1 : decode cX5_isHeader 1 = .ok (.ifCond .eq 21, 3) := by decide +kernel
theorem dX5_isHeader_4 : decode cX5_isHeader 4 = .ok (.iload_n 0, 1) := by decide +kernel
theorem dX5_isHeader_5 : decode cX5_isHeader 5 = .ok (.bipush 43, 2) := by decide +kernel
theorem dX5_isHeader_7 : decode cX5_isHeader 7 = .ok (.if_icmp .eq 15, 3) := by decide +kernel
theorem dX5_isHeader_10 : decode cX5_isHeader 10 = .ok (.iload_n 0, 1) := by decide +kernel
theorem dX5_isHeader_11 : decode cX5_isHeader 11 = .ok (.bipush 44, 2) := by decide +kernel
theorem dX5_isHeader_13 : decode cX5_isHeader 13 = .ok (.if_icmp .eq 9, 3) := by decide +kernel
theorem dX5_isHeader_16 : decode cX5_isHeader 16 = .ok (.iload_n 0, 1) := by decide +kernel
theorem dX5_isHeader_17 : decode cX5_isHeader 17 = .ok (.bipush 60, 2) := by decide +kernel
theorem dX5_isHeader_19 : decode cX5_isHeader 19 = .ok (.if_icmp .ne 7, 3) := by decide +kernel
theorem dX5_isHeader_22 : decode cX5_isHeader 22 = .ok (.iconst 1, 1) := by decide +kernel
theorem dX5_isHeader_23 : decode cX5_isHeader 23 = .ok (.goto 4, 3) := by decide +kernel
theorem dX5_isHeader_26 : decode cX5_isHeader 26 = .ok (.iconst 0, 1) := by decide +kernel
theorem dX5_isHeader_27 : decode cX5_isHeader 27 = .ok (.ireturn, 1) := by decide +kernel
theorem dX5_setFour_0 : decode cX5_setFour 0 = .ok (.aload_n 0, 1) := by decide +kernel
theorem dX5_setFour_1 : decode cX5_setFour 1 = .ok (.lload_n 1, 1) := by decide +kernel
theorem dX5_setFour_2 : decode cX5_setFour 2 = .ok (.l2i, 1) := by decide +kernel
theorem dX5_setFour_3 : decode cX5_setFour 3 = .ok (.putfield 95, 3) := by decide +kernel
theorem dX5_setFour_6 : decode cX5_setFour 6 = .ok (.aload_n 0, 1) := by decide +kernel
theorem dX5_setFour_7 : decode cX5_setFour 7 = .ok (.lload_n 3, 1) := by decide +kernel
theorem dX5_setFour_8 : decode cX5_setFour 8 = .ok (.l2i, 1) := by decide +kernel
theorem dX5_setFour_9 : decode cX5_setFour 9 = .ok (.putfield 98, 3) := by decide +kernel
theorem dX5_setFour_12 : decode cX5_setFour 12 = .ok (.aload_n 0, 1) := by decide +kernel
theorem dX5_setFour_13 : decode cX5_setFour 13 = .ok (.lload_n 1, 1) := by decide +kernel
theorem dX5_setFour_14 : decode cX5_setFour 14 = .ok (.bipush 32, 2) := by decide +kernel
theorem dX5_setFour_16 : decode cX5_setFour 16 = .ok (.lshl, 1) := by decide +kernel
theorem dX5_setFour_17 : decode cX5_setFour 17 = .ok (.lload_n 3, 1) := by decide +kernel
theorem dX5_setFour_18 : decode cX5_setFour 18 = .ok (.lor, 1) := by decide +kernel
theorem dX5_setFour_19 : decode cX5_setFour 19 = .ok (.invokestatic 101, 3) := by decide +kernel
theorem dX5_setFour_22 : decode cX5_setFour 22 = .ok (.putfield 105, 3) := by decide +kernel
theorem dX5_setFour_25 : decode cX5_setFour 25 = .ok (.return_, 1) := by decide +kernel
theorem dX5_flags_0 : decode cX5_flags 0 = .ok (.aload_n 0, 1) := by decide +kernel
theorem dX5_flags_1 : decode cX5_flags 1 = .ok (.getfield 79, 3) := by decide +kernel
theorem dX5_flags_4 : decode cX5_flags 4 = .ok (.ifCond .ne 18, 3) := by decide +kernel
theorem dX5_flags_7 : decode cX5_flags 7 = .ok (.iload_n 1, 1) := by decide +kernel
theorem dX5_flags_8 : decode cX5_flags 8 = .ok (.sipush 1260, 3) := by decide +kernel
theorem dX5_flags_11 : decode cX5_flags 11 = .ok (.if_icmp .le 9, 3) := by decide +kernel
theorem dX5_flags_14 : decode cX5_flags 14 = .ok (.sipush 16384, 3) := by decide +kernel
theorem dX5_flags_17 : decode cX5_flags 17 = .ok (.goto 4, 3) := by decide +kernel
theorem dX5_flags_20 : decode cX5_flags 20 = .ok (.iconst 0, 1) := by decide +kernel
theorem dX5_flags_21 : decode cX5_flags 21 = .ok (.ireturn, 1) := by decide +kernel
theorem dX5_flags_22 : decode cX5_flags 22 = .ok (.aload_n 0, 1) := by decide +kernel
theorem dX5_flags_23 : decode cX5_flags 23 = .ok (.getfield 76, 3) := by decide +kernel
theorem dX5_flags_26 : decode cX5_flags 26 = .ok (.aload_n 0, 1) := by decide +kernel
theorem dX5_flags_27 : decode cX5_flags 27 = .ok (.getfield 25, 3) := by decide +kernel
theorem dX5_flags_30 : decode cX5_flags 30 = .ok (.ifCond .eq 9, 3) := by decide +kernel
theorem dX5_flags_33 : decode cX5_flags 33 = .ok (.sipush 8192, 3) := by decide +kernel
theorem dX5_flags_36 : decode cX5_flags 36 = .ok (.goto 4, 3) := by decide +kernel
theorem dX5_flags_39 : decode cX5_flags 39 = .ok (.iconst 0, 1) := by decide +kernel
theorem dX5_flags_40 : decode cX5_flags 40 = .ok (.ior, 1) := by decide +kernel
theorem dX5_flags_41 : decode cX5_flags 41 = .ok (.ireturn, 1) := by decide +kernel
theorem dX6_init_0 : decode cX6_init 0 = .ok (.aload_n 0, 1) := by decide +kernel
theorem dX6_init_1 : decode cX6_init 1 = .ok (.invokespecial 3, 3) := by decide +kernel
theorem dX6_init_4 : decode cX6_init 4 = .ok (.aload_n 0, 1) := by decide +kernel
theorem dX6_init_5 : decode cX6_init 5 = .ok (.new 9, 3) := by decide +kernel
theorem dX6_init_8 : decode cX6_init 8 = .ok (.dup, 1) := by decide +kernel
theorem dX6_init_9 : decode cX6_init 9 = .ok (.sipush 2400, 3) := by decide +kernel
theorem dX6_init_12 : decode cX6_init 12 = .ok (.newarray .byte, 2) := by decide +kernel
theorem dX6_init_14 : decode cX6_init 14 = .ok (.invokespecial 11, 3) := by decide +kernel
theorem dX6_init_17 : decode cX6_init 17 = .ok (.putfield 14, 3) := by decide +kernel
theorem dX6_init_20 : decode cX6_init 20 = .ok (.aload_n 0, 1) := by decide +kernel
theorem dX6_init_21 : decode cX6_init 21 = .ok (.new 9, 3) := by decide +kernel
theorem dX6_init_24 : decode cX6_init 24 = .ok (.dup, 1) := by decide +kernel
theorem dX6_init_25 : decode cX6_init 25 = .ok (.sipush 2408, 3) := by decide +kernel
theorem dX6_init_28 : decode cX6_init 28 = .ok (.newarray .byte, 2) := by decide +kernel
theorem dX6_init_30 : decode cX6_init 30 = .ok (.invokespecial 11, 3) := by decide +kernel
theorem dX6_init_33 : decode cX6_init 33 = .ok (.putfield 18, 3) := by decide +kernel
theorem dX6_init_36 : decode cX6_init 36 = .ok (.aload_n 0, 1) := by decide +kernel
theorem dX6_init_37 : decode cX6_init 37 = .ok (.new 21, 3) := by decide +kernel
theorem dX6_init_40 : decode cX6_init 40 = .ok (.dup, 1) := by decide +kernel
theorem dX6_init_41 : decode cX6_init 41 = .ok (.invokespecial 23, 3) := by decide +kernel
theorem dX6_init_44 : decode cX6_init 44 = .ok (.putfield 24, 3) := by decide +kernel
theorem dX6_init_47 : decode cX6_init 47 = .ok (.aload_n 0, 1) := by decide +kernel
theorem dX6_init_48 : decode cX6_init 48 = .ok (.new 28, 3) := by decide +kernel
theorem dX6_init_51 : decode cX6_init 51 = .ok (.dup, 1) := by decide +kernel
theorem dX6_init_52 : decode cX6_init 52 = .ok (.invokespecial 30, 3) := by decide +kernel
theorem dX6_init_55 : decode cX6_init 55 = .ok (.putfield 31, 3) := by decide +kernel
theorem dX6_init_58 : decode cX6_init 58 = .ok (.aload_n 0, 1) := by decide +kernel
theorem dX6_init_59 : decode cX6_init 59 = .ok (.new 35, 3) := by decide +kernel
theorem dX6_init_62 : decode cX6_init 62 = .ok (.dup, 1) := by decide +kernel
theorem dX6_init_63 : decode cX6_init 63 = .ok (.invokespecial 37, 3) := by decide +kernel
theorem dX6_init_66 : decode cX6_init 66 = .ok (.putfield 38, 3) := by decide +kernel
theorem dX6_init_69 : decode cX6_init 69 = .ok (.aload_n 0, 1) := by decide +kernel
theorem dX6_init_70 : decode cX6_init 70 = .ok (.new 35, 3) := by decide +kernel
theorem dX6_init_73 : decode cX6_init 73 = .ok (.dup, 1) := by decide +kernel
theorem dX6_init_74 : decode cX6_init 74 = .ok (.invokespecial 37, 3) := by decide +kernel
theorem dX6_init_77 : decode cX6_init 77 = .ok (.putfield 42, 3) := by decide +kernel
theorem dX6_init_80 : decode cX6_init 80 = .ok (.aload_n 0, 1) := by decide +kernel
theorem dX6_init_81 : decode cX6_init 81 = .ok (.new 45, 3) := by decide +kernel
theorem dX6_init_84 : decode cX6_init 84 = .ok (.dup, 1) := by decide +kernel
theorem dX6_init_85 : decode cX6_init 85 = .ok (.invokespecial 47, 3) := by decide +kernel
theorem dX6_init_88 : decode cX6_init 88 = .ok (.putfield 48, 3) := by decide +kernel
theorem dX6_init_91 : decode cX6_init 91 = .ok (.aload_n 0, 1) := by decide +kernel
theorem dX6_init_92 : decode cX6_init 92 = .ok (.new 45, 3) := by decide +kernel
theorem dX6_init_95 : decode cX6_init 95 = .ok (.dup, 1) := by decide +kernel
theorem dX6_init_96 : decode cX6_init 96 = .ok (.invokespecial 47, 3) := by decide +kernel
theorem dX6_init_99 : decode cX6_init 99 = .ok (.putfield 52, 3) := by decide +kernel
theorem dX6_init_102 : decode cX6_init 102 = .ok (.aload_n 0, 1) := by decide +kernel
theorem dX6_init_103 : decode cX6_init 103 = .ok (.bipush 11, 2) := by decide +kernel
theorem dX6_init_105 : decode cX6_init 105 = .ok (.newarray .int, 2) := by decide +kernel
theorem dX6_init_107 : decode cX6_init 107 = .ok (.putfield 55, 3) := by decide +kernel
theorem dX6_init_110 : decode cX6_init 110 = .ok (.aload_n 0, 1) := by decide +kernel
theorem dX6_init_111 : decode cX6_init 111 = .ok (.ldc 59, 2) := by decide +kernel
theorem dX6_init_113 : decode cX6_init 113 = .ok (.putfield 60, 3) := by decide +kernel
theorem dX6_init_116 : decode cX6_init 116 = .ok (.aload_n 0, 1) := by decide +kernel
theorem dX6_init_117 : decode cX6_init 117 = .ok (.ldc2_w 64, 3) := by decide +kernel
theorem dX6_init_120 : decode cX6_init 120 = .ok (.putfield 66, 3) := by decide +kernel
theorem dX6_init_123 : decode cX6_init 123 = .ok (.aload_n 0, 1) := by decide +kernel
theorem dX6_init_124 : decode cX6_init 124 = .ok (.lconst 1, 1) := by decide +kernel
theorem dX6_init_125 : decode cX6_init 125 = .ok (.putfield 70, 3) := by decide +kernel
theorem dX6_init_128 : decode cX6_init 128 = .ok (.aload_n 0, 1) := by decide +kernel
theorem dX6_init_129 : decode cX6_init 129 = .ok (.sipush 1500, 3) := by decide +kernel
theorem dX6_init_132 : decode cX6_init 132 = .ok (.putfield 73, 3) := by decide +kernel
theorem dX6_init_135 : decode cX6_init 135 = .ok (.aload_n 0, 1) := by decide +kernel
theorem dX6_init_136 : decode cX6_init 136 = .ok (.sipush 1500, 3) := by decide +kernel
theorem dX6_init_139 : decode cX6_init 139 = .ok (.putfield 76, 3) := by decide +kernel
theorem dX6_init_142 : decode cX6_init 142 = .ok (.aload_n 0, 1) := by decide +kernel
theorem dX6_init_143 : decode cX6_init 143 = .ok (.iconst 1, 1) := by decide +kernel
theorem dX6_init_144 : decode cX6_init 144 = .ok (.putfield 79, 3) := by decide +kernel
theorem dX6_init_147 : decode cX6_init 147 = .ok (.aload_n 0, 1) := by decide +kernel
theorem dX6_init_148 : decode cX6_init 148 = .ok (.iconst 1, 1) := by decide +kernel
theorem dX6_init_149 : decode cX6_init 149 = .ok (.putfield 83, 3) := by decide +kernel
theorem dX6_init_152 : decode cX6_init 152 = .ok (.aload_n 0, 1) := by decide +kernel
theorem dX6_init_153 : decode cX6_init 153 = .ok (.iconst 0, 1) := by decide +kernel
theorem dX6_init_154 : decode cX6_init 154 = .ok (.putfield 86, 3) := by decide +kernel
theorem dX6_init_157 : decode cX6_init 157 = .ok (.return_, 1) := by decide +kernel
theorem dX6_feed_0 : decode cX6_feed 0 = .ok (.aload_n 0, 1) := by decide +kernel
theorem dX6_feed_1 : decode cX6_feed 1 = .ok (.getfield 14, 3) := by decide +kernel
theorem dX6_feed_4 : decode cX6_feed 4 = .ok (.getfield 89, 3) := by decide +kernel
theorem dX6_feed_7 : decode cX6_feed 7 = .ok (.istore 6, 2) := by decide +kernel
theorem dX6_feed_9 : decode cX6_feed 9 = .ok (.iload 6, 2) := by decide +kernel
theorem dX6_feed_11 : decode cX6_feed 11 = .ok (.bipush 20, 2) := by decide +kernel
theorem dX6_feed_13 : decode cX6_feed 13 = .ok (.iadd, 1) := by decide +kernel
theorem dX6_feed_14 : decode cX6_feed 14 = .ok (.sipush 2400, 3) := by decide +kernel
theorem dX6_feed_17 : decode cX6_feed 17 = .ok (.if_icmp .le 13, 3) := by decide +kernel
theorem dX6_feed_20 : decode cX6_feed 20 = .ok (.new 92, 3) := by decide +kernel
theorem dX6_feed_23 : decode cX6_feed 23 = .ok (.dup, 1) := by decide +kernel
theorem dX6_feed_24 : decode cX6_feed 24 = .ok (.ldc 94, 2) := by decide +kernel
theorem dX6_feed_26 : decode cX6_feed 26 = .ok (.invokespecial 96, 3) := by decide +kernel
theorem dX6_feed_29 : decode cX6_feed 29 = .ok (.athrow, 1) := by decide +kernel
theorem dX6_feed_30 : decode cX6_feed 30 = .ok (.aload_n 0, 1) := by decide +kernel
theorem dX6_feed_31 : decode cX6_feed 31 = .ok (.getfield 14, 3) := by decide +kernel
theorem dX6_feed_34 : decode cX6_feed 34 = .ok (.iload 6, 2) := by decide +kernel
theorem dX6_feed_36 : decode cX6_feed 36 = .ok (.iconst 4, 1) := by decide +kernel
theorem dX6_feed_37 : decode cX6_feed 37 = .ok (.iload_n 1, 1) := by decide +kernel
theorem dX6_feed_38 : decode cX6_feed 38 = .ok (.i2l, 1) := by decide +kernel
theorem dX6_feed_39 : decode cX6_feed 39 = .ok (.invokevirtual 99, 3) := by decide +kernel
theorem dX6_feed_42 : decode cX6_feed 42 = .ok (.aload_n 0, 1) := by decide +kernel
theorem dX6_feed_43 : decode cX6_feed 43 = .ok (.getfield 14, 3) := by decide +kernel
theorem dX6_feed_46 : decode cX6_feed 46 = .ok (.iload 6, 2) := by decide +kernel
theorem dX6_feed_48 : decode cX6_feed 48 = .ok (.iconst 4, 1) := by decide +kernel
theorem dX6_feed_49 : decode cX6_feed 49 = .ok (.iadd, 1) := by decide +kernel
theorem dX6_feed_50 : decode cX6_feed 50 = .ok (.iconst 4, 1) := by decide +kernel
theorem dX6_feed_51 : decode cX6_feed 51 = .ok (.iload_n 2, 1) := by decide +kernel
theorem dX6_feed_52 : decode cX6_feed 52 = .ok (.i2l, 1) := by decide +kernel
theorem dX6_feed_53 : decode cX6_feed 53 = .ok (.invokevirtual 99, 3) := by decide +kernel
theorem dX6_feed_56 : decode cX6_feed 56 = .ok (.aload_n 0, 1) := by decide +kernel
theorem dX6_feed_57 : decode cX6_feed 57 = .ok (.getfield 14, 3) := by decide +kernel
theorem dX6_feed_60 : decode cX6_feed 60 = .ok (.iload 6, 2) := by decide +kernel
theorem dX6_feed_62 : decode cX6_feed 62 = .ok (.bipush 8, 2) := by decide +kernel
theorem dX6_feed_64 : decode cX6_feed 64 = .ok (.iadd, 1) := by decide +kernel
theorem dX6_feed_65 : decode cX6_feed 65 = .ok (.iconst 4, 1) := by decide +kernel
theorem dX6_feed_66 : decode cX6_feed 66 = .ok (.iload_n 3, 1) := by decide +kernel
theorem dX6_feed_67 : decode cX6_feed 67 = .ok (.i2l, 1) := by decide +kernel
theorem dX6_feed_68 : decode cX6_feed 68 = .ok (.invokevirtual 99, 3) := by decide +kernel
theorem dX6_feed_71 : decode cX6_feed 71 = .ok (.aload_n 0, 1) := by decide +kernel
theorem dX6_feed_72 : decode cX6_feed 72 = .ok (.getfield 14, 3) := by decide +kernel
theorem dX6_feed_75 : decode cX6_feed 75 = .ok (.iload 6, 2) := by decide +kernel
theorem dX6_feed_77 : decode cX6_feed 77 = .ok (.bipush 12, 2) := by decide +kernel
theorem dX6_feed_79 : decode cX6_feed 79 = .ok (.iadd, 1) := by decide +kernel
theorem dX6_feed_80 : decode cX6_feed 80 = .ok (.iconst 4, 1) := by decide +kernel
theorem dX6_feed_81 : decode cX6_feed 81 = .ok (.iload 4, 2) := by decide +kernel
theorem dX6_feed_83 : decode cX6_feed 83 = .ok (.i2l, 1) := by decide +kernel
theorem dX6_feed_84 : decode cX6_feed 84 = .ok (.invokevirtual 99, 3) := by decide +kernel
theorem dX6_feed_87 : decode cX6_feed 87 = .ok (.aload_n 0, 1) := by decide +kernel
theorem dX6_feed_88 : decode cX6_feed 88 = .ok (.getfield 14, 3) := by decide +kernel
theorem dX6_feed_91 : decode cX6_feed 91 = .ok (.iload 6, 2) := by decide +kernel
theorem dX6_feed_93 : decode cX6_feed 93 = .ok (.bipush 16, 2) := by decide +kernel
theorem dX6_feed_95 : decode cX6_feed 95 = .ok (.iadd, 1) := by decide +kernel
theorem dX6_feed_96 : decode cX6_feed 96 = .ok (.iconst 4, 1) := by decide +kernel
theorem dX6_feed_97 : decode cX6_feed 97 = .ok (.iload 5, 2) := by decide +kernel
theorem dX6_feed_99 : decode cX6_feed 99 = .ok (.i2l, 1) := by decide +kernel
theorem dX6_feed_100 : decode cX6_feed 100 = .ok (.invokevirtual 99, 3) := by decide +kernel
theorem dX6_feed_103 : decode cX6_feed 103 = .ok (.aload_n 0, 1) := by decide +kernel
theorem dX6_feed_104 : decode cX6_feed 104 = .ok (.getfield 14, 3) := by decide +kernel
theorem dX6_feed_107 : decode cX6_feed 107 = .ok (.iload 6, 2) := by decide +kernel
theorem dX6_feed_109 : decode cX6_feed 109 = .ok (.bipush 20, 2) := by decide +kernel
theorem dX6_feed_111 : decode cX6_feed 111 = .ok (.iadd, 1) := by decide +kernel
theorem dX6_feed_112 : decode cX6_feed 112 = .ok (.putfield 89, 3) := by decide +kernel
theorem dX6_feed_115 : decode cX6_feed 115 = .ok (.aload_n 0, 1) := by decide +kernel
theorem dX6_feed_116 : decode cX6_feed 116 = .ok (.getfield 14, 3) := by decide +kernel
theorem dX6_feed_119 : decode cX6_feed 119 = .ok (.getfield 89, 3) := by decide +kernel
theorem dX6_feed_122 : decode cX6_feed 122 = .ok (.ireturn, 1) := by decide +kernel
theorem dX6_end_0 : decode cX6_end 0 = .ok (.iload_n 1, 1) := by decide +kernel
theorem dX6_end_1 : decode cX6_end 1 = .ok (.ifCond .lt 14, 3) := by decide +kernel
theorem dX6_end_4 : decode cX6_end 4 = .ok (.iload_n 1, 1) := by decide +kernel
theorem dX6_end_5 : decode cX6_end 5 = .ok (.aload_n 0, 1) := by decide +kernel
theorem dX6_end_6 : decode cX6_end 6 = .ok (.getfield 14, 3) := by decide +kernel
theorem dX6_end_9 : decode cX6_end 9 = .ok (.getfield 89, 3) := by decide +kernel
theorem dX6_end_12 : decode cX6_end 12 = .ok (.if_icmp .le 13, 3) := by decide +kernel
theorem dX6_end_15 : decode cX6_end 15 = .ok (.new 103, 3) := by decide +kernel
theorem dX6_end_18 : decode cX6_end 18 = .ok (.dup, 1) := by decide +kernel
theorem dX6_end_19 : decode cX6_end 19 = .ok (.ldc 105, 2) := by decide +kernel
theorem dX6_end_21 : decode cX6_end 21 = .ok (.invokespecial 107, 3) := by decide +kernel
theorem dX6_end_24 : decode cX6_end 24 = .ok (.athrow, 1) := by decide +kernel
theorem dX6_end_25 : decode cX6_end 25 = .ok (.aload_n 0, 1) := by decide +kernel
theorem dX6_end_26 : decode cX6_end 26 = .ok (.getfield 14, 3) := by decide +kernel
theorem dX6_end_29 : decode cX6_end 29 = .ok (.iload_n 1, 1) := by decide +kernel
theorem dX6_end_30 : decode cX6_end 30 = .ok (.putfield 89, 3) := by decide +kernel
theorem dX6_end_33 : decode cX6_end 33 = .ok (.iload_n 1, 1) := by decide +kernel
theorem dX6_end_34 : decode cX6_end 34 = .ok (.ireturn, 1) := by decide +kernel
theorem dX6_prefix_0 : decode cX6_prefix 0 = .ok (.lload_n 1, 1) := by decide +kernel
theorem dX6_prefix_1 : decode cX6_prefix 1 = .ok (.lload_n 3, 1) := by decide +kernel
theorem dX6_prefix_2 : decode cX6_prefix 2 = .ok (.iload 5, 2) := by decide +kernel
theorem dX6_prefix_4 : decode cX6_prefix 4 = .ok (.invokestatic 108, 3) := by decide +kernel
theorem dX6_prefix_7 : decode cX6_prefix 7 = .ok (.ifCond .ne 13, 3) := by decide +kernel
theorem dX6_prefix_10 : decode cX6_prefix 10 = .ok (.new 103, 3) := by decide +kernel
theorem dX6_prefix_13 : decode cX6_prefix 13 = .ok (.dup, 1) := by decide +kernel
theorem dX6_prefix_14 : decode cX6_prefix 14 = .ok (.ldc 112, 2) := by decide +kernel
theorem dX6_prefix_16 : decode cX6_prefix 16 = .ok (.invokespecial 107, 3) := by decide +kernel
theorem dX6_prefix_19 : decode cX6_prefix 19 = .ok (.athrow, 1) := by decide +kernel
theorem dX6_prefix_20 : decode cX6_prefix 20 = .ok (.aload_n 0, 1) := by decide +kernel
theorem dX6_prefix_21 : decode cX6_prefix 21 = .ok (.getfield 31, 3) := by decide +kernel
theorem dX6_prefix_24 : decode cX6_prefix 24 = .ok (.lload_n 1, 1) := by decide +kernel
theorem dX6_prefix_25 : decode cX6_prefix 25 = .ok (.putfield 114, 3) := by decide +kernel
theorem dX6_prefix_28 : decode cX6_prefix 28 = .ok (.aload_n 0, 1) := by decide +kernel
theorem dX6_prefix_29 : decode cX6_prefix 29 = .ok (.getfield 31, 3) := by decide +kernel
theorem dX6_prefix_32 : decode cX6_prefix 32 = .ok (.lload_n 3, 1) := by decide +kernel
theorem dX6_prefix_33 : decode cX6_prefix 33 = .ok (.putfield 117, 3) := by decide +kernel
theorem dX6_prefix_36 : decode cX6_prefix 36 = .ok (.aload_n 0, 1) := by decide +kernel
theorem dX6_prefix_37 : decode cX6_prefix 37 = .ok (.getfield 31, 3) := by decide +kernel
theorem dX6_prefix_40 : decode cX6_prefix 40 = .ok (.iload 5, 2) := by decide +kernel
theorem dX6_prefix_42 : decode cX6_prefix 42 = .ok (.putfield 120, 3) := by decide +kernel
theorem dX6_prefix_45 : decode cX6_prefix 45 = .ok (.return_, 1) := by decide +kernel
theorem dX6_own_0 : decode cX6_own 0 = .ok (.aload_n 0, 1) := by decide +kernel
theorem dX6_own_1 : decode cX6_own 1 = .ok (.iload_n 1, 1) := by decide +kernel
theorem dX6_own_2 : decode cX6_own 2 = .ok (.putfield 60, 3) := by decide +kernel
theorem dX6_own_5 : decode cX6_own 5 = .ok (.aload_n 0, 1) := by decide +kernel
theorem dX6_own_6 : decode cX6_own 6 = .ok (.lload_n 2, 1) := by decide +kernel
theorem dX6_own_7 : decode cX6_own 7 = .ok (.putfield 66, 3) := by decide +kernel
theorem dX6_own_10 : decode cX6_own 10 = .ok (.aload_n 0, 1) := by decide +kernel
theorem dX6_own_11 : decode cX6_own 11 = .ok (.lload 4, 2) := by decide +kernel
theorem dX6_own_13 : decode cX6_own 13 = .ok (.putfield 70, 3) := by decide +kernel
theorem dX6_own_16 : decode cX6_own 16 = .ok (.return_, 1) := by decide +kernel
theorem dX6_limits_0 : decode cX6_limits 0 = .ok (.iload_n 1, 1) := by decide +kernel
theorem dX6_limits_1 : decode cX6_limits 1 = .ok (.bipush 68, 2) := by decide +kernel
theorem dX6_limits_3 : decode cX6_limits 3 = .ok (.if_icmp .lt 24, 3) := by decide +kernel
theorem dX6_limits_6 : decode cX6_limits 6 = .ok (.iload_n 1, 1) := by decide +kernel
theorem dX6_limits_7 : decode cX6_limits 7 = .ok (.sipush 2000, 3) := by decide +kernel
theorem dX6_limits_10 : decode cX6_limits 10 = .ok (.if_icmp .gt 17, 3) := by decide +kernel
theorem dX6_limits_13 : decode cX6_limits 13 = .ok (.iload_n 2, 1) := by decide +kernel
theorem dX6_limits_14 : decode cX6_limits 14 = .ok (.sipush 1280, 3) := by decide +kernel
theorem dX6_limits_17 : decode cX6_limits 17 = .ok (.if_icmp .lt 10, 3) := by decide +kernel
theorem dX6_limits_20 : decode cX6_limits 20 = .ok (.iload_n 2, 1) := by decide +kernel
theorem dX6_limits_21 : decode cX6_limits 21 = .ok (.sipush 2000, 3) := by decide +kernel
theorem dX6_limits_24 : decode cX6_limits 24 = .ok (.if_icmp .le 13, 3) := by decide +kernel
theorem dX6_limits_27 : decode cX6_limits 27 = .ok (.new 103, 3) := by decide +kernel
theorem dX6_limits_30 : decode cX6_limits 30 = .ok (.dup, 1) := by decide +kernel
theorem dX6_limits_31 : decode cX6_limits 31 = .ok (.ldc 123, 2) := by decide +kernel
theorem dX6_limits_33 : decode cX6_limits 33 = .ok (.invokespecial 107, 3) := by decide +kernel
theorem dX6_limits_36 : decode cX6_limits 36 = .ok (.athrow, 1) := by decide +kernel
theorem dX6_limits_37 : decode cX6_limits 37 = .ok (.aload_n 0, 1) := by decide +kernel
theorem dX6_limits_38 : decode cX6_limits 38 = .ok (.iload_n 1, 1) := by decide +kernel
theorem dX6_limits_39 : decode cX6_limits 39 = .ok (.putfield 73, 3) := by decide +kernel
theorem dX6_limits_42 : decode cX6_limits 42 = .ok (.aload_n 0, 1) := by decide +kernel
theorem dX6_limits_43 : decode cX6_limits 43 = .ok (.iload_n 2, 1) := by decide +kernel
theorem dX6_limits_44 : decode cX6_limits 44 = .ok (.putfield 76, 3) := by decide +kernel
theorem dX6_limits_47 : decode cX6_limits 47 = .ok (.return_, 1) := by decide +kernel
theorem dX6_ways_0 : decode cX6_ways 0 = .ok (.aload_n 0, 1) := by decide +kernel
theorem dX6_ways_1 : decode cX6_ways 1 = .ok (.iload_n 1, 1) := by decide +kernel
theorem dX6_ways_2 : decode cX6_ways 2 = .ok (.putfield 79, 3) := by decide +kernel
theorem dX6_ways_5 : decode cX6_ways 5 = .ok (.aload_n 0, 1) := by decide +kernel
theorem dX6_ways_6 : decode cX6_ways 6 = .ok (.iload_n 2, 1) := by decide +kernel
theorem dX6_ways_7 : decode cX6_ways 7 = .ok (.putfield 83, 3) := by decide +kernel
theorem dX6_ways_10 : decode cX6_ways 10 = .ok (.return_, 1) := by decide +kernel
theorem dX6_four_0 : decode cX6_four 0 = .ok (.aload_n 0, 1) := by decide +kernel
theorem dX6_four_1 : decode cX6_four 1 = .ok (.getfield 24, 3) := by decide +kernel
theorem dX6_four_4 : decode cX6_four 4 = .ok (.invokevirtual 125, 3) := by decide +kernel
theorem dX6_four_7 : decode cX6_four 7 = .ok (.aload_n 0, 1) := by decide +kernel
theorem dX6_four_8 : decode cX6_four 8 = .ok (.aload_n 0, 1) := by decide +kernel
theorem dX6_four_9 : decode cX6_four 9 = .ok (.getfield 38, 3) := by decide +kernel
theorem dX6_four_12 : decode cX6_four 12 = .ok (.invokevirtual 128, 3) := by decide +kernel
theorem dX6_four_15 : decode cX6_four 15 = .ok (.istore_n 1, 1) := by decide +kernel
theorem dX6_four_16 : decode cX6_four 16 = .ok (.aload_n 0, 1) := by decide +kernel
theorem dX6_four_17 : decode cX6_four 17 = .ok (.iload_n 1, 1) := by decide +kernel
theorem dX6_four_18 : decode cX6_four 18 = .ok (.invokevirtual 132, 3) := by decide +kernel
theorem dX6_four_21 : decode cX6_four 21 = .ok (.iload_n 1, 1) := by decide +kernel
theorem dX6_four_22 : decode cX6_four 22 = .ok (.ireturn, 1) := by decide +kernel
theorem dX6_six_0 : decode cX6_six 0 = .ok (.aload_n 0, 1) := by decide +kernel
theorem dX6_six_1 : decode cX6_six 1 = .ok (.getfield 24, 3) := by decide +kernel
theorem dX6_six_4 : decode cX6_six 4 = .ok (.invokevirtual 125, 3) := by decide +kernel
theorem dX6_six_7 : decode cX6_six 7 = .ok (.aload_n 0, 1) := by decide +kernel
theorem dX6_six_8 : decode cX6_six 8 = .ok (.aload_n 0, 1) := by decide +kernel
theorem dX6_six_9 : decode cX6_six 9 = .ok (.getfield 48, 3) := by decide +kernel
theorem dX6_six_12 : decode cX6_six 12 = .ok (.invokevirtual 136, 3) := by decide +kernel
theorem dX6_six_15 : decode cX6_six 15 = .ok (.istore_n 1, 1) := by decide +kernel
theorem dX6_six_16 : decode cX6_six 16 = .ok (.aload_n 0, 1) := by decide +kernel
theorem dX6_six_17 : decode cX6_six 17 = .ok (.iload_n 1, 1) := by decide +kernel
theorem dX6_six_18 : decode cX6_six 18 = .ok (.invokevirtual 132, 3) := by decide +kernel
theorem dX6_six_21 : decode cX6_six 21 = .ok (.iload_n 1, 1) := by decide +kernel
theorem dX6_six_22 : decode cX6_six 22 = .ok (.ireturn, 1) := by decide +kernel
theorem dX6_parts_0 : decode cX6_parts 0 = .ok (.aload_n 0, 1) := by decide +kernel
theorem dX6_parts_1 : decode cX6_parts 1 = .ok (.getfield 24, 3) := by decide +kernel
theorem dX6_parts_4 : decode cX6_parts 4 = .ok (.getfield 140, 3) := by decide +kernel
theorem dX6_parts_7 : decode cX6_parts 7 = .ok (.ireturn, 1) := by decide +kernel
theorem dX6_size_0 : decode cX6_size 0 = .ok (.aload_n 0, 1) := by decide +kernel
theorem dX6_size_1 : decode cX6_size 1 = .ok (.getfield 24, 3) := by decide +kernel
theorem dX6_size_4 : decode cX6_size 4 = .ok (.iload_n 1, 1) := by decide +kernel
theorem dX6_size_5 : decode cX6_size 5 = .ok (.invokevirtual 143, 3) := by decide +kernel
theorem dX6_size_8 : decode cX6_size 8 = .ok (.ireturn, 1) := by decide +kernel
theorem dX6_octet_0 : decode cX6_octet 0 = .ok (.iload_n 2, 1) := by decide +kernel
theorem dX6_octet_1 : decode cX6_octet 1 = .ok (.ifCond .lt 15, 3) := by decide +kernel
theorem dX6_octet_4 : decode cX6_octet 4 = .ok (.iload_n 2, 1) := by decide +kernel
theorem dX6_octet_5 : decode cX6_octet 5 = .ok (.aload_n 0, 1) := by decide +kernel
theorem dX6_octet_6 : decode cX6_octet 6 = .ok (.getfield 24, 3) := by decide +kernel
theorem dX6_octet_9 : decode cX6_octet 9 = .ok (.iload_n 1, 1) := by decide +kernel
theorem dX6_octet_10 : decode cX6_octet 10 = .ok (.invokevirtual 143, 3) := by decide +kernel
theorem dX6_octet_13 : decode cX6_octet 13 = .ok (.if_icmp .lt 13, 3) := by decide +kernel
theorem dX6_octet_16 : decode cX6_octet 16 = .ok (.new 147, 3) := by decide +kernel
theorem dX6_octet_19 : decode cX6_octet 19 = .ok (.dup, 1) := by decide +kernel
theorem dX6_octet_20 : decode cX6_octet 20 = .ok (.ldc 149, 2) := by decide +kernel
theorem dX6_octet_22 : decode cX6_octet 22 = .ok (.invokespecial 151, 3) := by decide +kernel
theorem dX6_octet_25 : decode cX6_octet 25 = .ok (.athrow, 1) := by decide +kernel
theorem dX6_octet_26 : decode cX6_octet 26 = .ok (.aload_n 0, 1) := by decide +kernel
theorem dX6_octet_27 : decode cX6_octet 27 = .ok (.getfield 24, 3) := by decide +kernel
theorem dX6_octet_30 : decode cX6_octet 30 = .ok (.getfield 152, 3) := by decide +kernel
theorem dX6_octet_33 : decode cX6_octet 33 = .ok (.aload_n 0, 1) := by decide +kernel
theorem dX6_octet_34 : decode cX6_octet 34 = .ok (.getfield 24, 3) := by decide +kernel
theorem dX6_octet_37 : decode cX6_octet 37 = .ok (.iload_n 1, 1) := by decide +kernel
theorem dX6_octet_38 : decode cX6_octet 38 = .ok (.invokevirtual 155, 3) := by decide +kernel
theorem dX6_octet_41 : decode cX6_octet 41 = .ok (.iload_n 2, 1) := by decide +kernel
theorem dX6_octet_42 : decode cX6_octet 42 = .ok (.iadd, 1) := by decide +kernel
theorem dX6_octet_43 : decode cX6_octet 43 = .ok (.invokevirtual 158, 3) := by decide +kernel
theorem dX6_octet_46 : decode cX6_octet 46 = .ok (.ireturn, 1) := by decide +kernel
theorem dX6_check_0 : decode cX6_check 0 = .ok (.aload_n 0, 1) := by decide +kernel
theorem dX6_check_1 : decode cX6_check 1 = .ok (.getfield 24, 3) := by decide +kernel
theorem dX6_check_4 : decode cX6_check 4 = .ok (.iload_n 1, 1) := by decide +kernel
theorem dX6_check_5 : decode cX6_check 5 = .ok (.invokevirtual 143, 3) := by decide +kernel
theorem dX6_check_8 : decode cX6_check 8 = .ok (.istore 4, 2) := by decide +kernel
theorem dX6_check_10 : decode cX6_check 10 = .ok (.iload 4, 2) := by decide +kernel
theorem dX6_check_12 : decode cX6_check 12 = .ok (.iconst (-1), 1) := by decide +kernel
theorem dX6_check_13 : decode cX6_check 13 = .ok (.if_icmp .eq 18, 3) := by decide +kernel
theorem dX6_check_16 : decode cX6_check 16 = .ok (.iload_n 2, 1) := by decide +kernel
theorem dX6_check_17 : decode cX6_check 17 = .ok (.ifCond .lt 14, 3) := by decide +kernel
theorem dX6_check_20 : decode cX6_check 20 = .ok (.iload_n 3, 1) := by decide +kernel
theorem dX6_check_21 : decode cX6_check 21 = .ok (.iload_n 2, 1) := by decide +kernel
theorem dX6_check_22 : decode cX6_check 22 = .ok (.if_icmp .lt 9, 3) := by decide +kernel
theorem dX6_check_25 : decode cX6_check 25 = .ok (.iload_n 3, 1) := by decide +kernel
theorem dX6_check_26 : decode cX6_check 26 = .ok (.iload 4, 2) := by decide +kernel
theorem dX6_check_28 : decode cX6_check 28 = .ok (.if_icmp .le 13, 3) := by decide +kernel
theorem dX6_check_31 : decode cX6_check 31 = .ok (.new 147, 3) := by decide +kernel
theorem dX6_check_34 : decode cX6_check 34 = .ok (.dup, 1) := by decide +kernel
theorem dX6_check_35 : decode cX6_check 35 = .ok (.ldc 161, 2) := by decide +kernel
theorem dX6_check_37 : decode cX6_check 37 = .ok (.invokespecial 151, 3) := by decide +kernel
theorem dX6_check_40 : decode cX6_check 40 = .ok (.athrow, 1) := by decide +kernel
theorem dX6_check_41 : decode cX6_check 41 = .ok (.aload_n 0, 1) := by decide +kernel
theorem dX6_check_42 : decode cX6_check 42 = .ok (.getfield 24, 3) := by decide +kernel
theorem dX6_check_45 : decode cX6_check 45 = .ok (.iload_n 1, 1) := by decide +kernel
theorem dX6_check_46 : decode cX6_check 46 = .ok (.invokevirtual 155, 3) := by decide +kernel
theorem dX6_check_49 : decode cX6_check 49 = .ok (.istore 5, 2) := by decide +kernel
theorem dX6_check_51 : decode cX6_check 51 = .ok (.aload_n 0, 1) := by decide +kernel
theorem dX6_check_52 : decode cX6_check 52 = .ok (.getfield 24, 3) := by decide +kernel
theorem dX6_check_55 : decode cX6_check 55 = .ok (.getfield 152, 3) := by decide +kernel
theorem dX6_check_58 : decode cX6_check 58 = .ok (.iload 5, 2) := by decide +kernel
theorem dX6_check_60 : decode cX6_check 60 = .ok (.iload_n 2, 1) := by decide +kernel
theorem dX6_check_61 : decode cX6_check 61 = .ok (.iadd, 1) := by decide +kernel
theorem dX6_check_62 : decode cX6_check 62 = .ok (.iload 5, 2) := by decide +kernel
theorem dX6_check_64 : decode cX6_check 64 = .ok (.iload_n 3, 1) := by decide +kernel
theorem dX6_check_65 : decode cX6_check 65 = .ok (.iadd, 1) := by decide +kernel
theorem dX6_check_66 : decode cX6_check 66 = .ok (.invokevirtual 163, 3) := by decide +kernel
theorem dX6_check_69 : decode cX6_check 69 = .ok (.invokestatic 167, 3) := by decide +kernel
theorem dX6_check_72 : decode cX6_check 72 = .ok (.ireturn, 1) := by decide +kernel
theorem dX6_image_0 : decode cX6_image 0 = .ok (.aload_n 0, 1) := by decide +kernel
theorem dX6_image_1 : decode cX6_image 1 = .ok (.getfield 31, 3) := by decide +kernel
theorem dX6_image_4 : decode cX6_image 4 = .ok (.iload_n 1, 1) := by decide +kernel
theorem dX6_image_5 : decode cX6_image 5 = .ok (.invokevirtual 171, 3) := by decide +kernel
theorem dX6_image_8 : decode cX6_image 8 = .ok (.ifCond .ne 5, 3) := by decide +kernel
theorem dX6_image_11 : decode cX6_image 11 = .ok (.lconst 0, 1) := by decide +kernel
theorem dX6_image_12 : decode cX6_image 12 = .ok (.lreturn, 1) := by decide +kernel
theorem dX6_image_13 : decode cX6_image 13 = .ok (.iload_n 2, 1) := by decide +kernel
theorem dX6_image_14 : decode cX6_image 14 = .ok (.ifCond .eq 14, 3) := by decide +kernel
theorem dX6_image_17 : decode cX6_image 17 = .ok (.aload_n 0, 1) := by decide +kernel
theorem dX6_image_18 : decode cX6_image 18 = .ok (.getfield 31, 3) := by decide +kernel
theorem dX6_image_21 : decode cX6_image 21 = .ok (.iload_n 1, 1) := by decide +kernel
theorem dX6_image_22 : decode cX6_image 22 = .ok (.invokevirtual 175, 3) := by decide +kernel
theorem dX6_image_25 : decode cX6_image 25 = .ok (.goto 11, 3) := by decide +kernel
theorem dX6_image_28 : decode cX6_image 28 = .ok (.aload_n 0, 1) := by decide +kernel
theorem dX6_image_29 : decode cX6_image 29 = .ok (.getfield 31, 3) := by decide +kernel
theorem dX6_image_32 : decode cX6_image 32 = .ok (.iload_n 1, 1) := by decide +kernel
theorem dX6_image_33 : decode cX6_image 33 = .ok (.invokevirtual 179, 3) := by decide +kernel
theorem dX6_image_36 : decode cX6_image 36 = .ok (.lreturn, 1) := by decide +kernel
theorem dX6_address_0 : decode cX6_address 0 = .ok (.aload_n 0, 1) := by decide +kernel
theorem dX6_address_1 : decode cX6_address 1 = .ok (.getfield 31, 3) := by decide +kernel
theorem dX6_address_4 : decode cX6_address 4 = .ok (.lload_n 1, 1) := by decide +kernel
theorem dX6_address_5 : decode cX6_address 5 = .ok (.lload_n 3, 1) := by decide +kernel
theorem dX6_address_6 : decode cX6_address 6 = .ok (.invokevirtual 182, 3) := by decide +kernel
theorem dX6_address_9 : decode cX6_address 9 = .ok (.lreturn, 1) := by decide +kernel
theorem dX6_count_0 : decode cX6_count 0 = .ok (.iload_n 1, 1) := by decide +kernel
theorem dX6_count_1 : decode cX6_count 1 = .ok (.ifCond .lt 19, 3) := by decide +kernel
theorem dX6_count_4 : decode cX6_count 4 = .ok (.iload_n 1, 1) := by decide +kernel
theorem dX6_count_5 : decode cX6_count 5 = .ok (.aload_n 0, 1) := by decide +kernel
theorem dX6_count_6 : decode cX6_count 6 = .ok (.getfield 55, 3) := by decide +kernel
theorem dX6_count_9 : decode cX6_count 9 = .ok (.arraylength, 1) := by decide +kernel
theorem dX6_count_10 : decode cX6_count 10 = .ok (.if_icmp .ge 10, 3) := by decide +kernel
theorem dX6_count_13 : decode cX6_count 13 = .ok (.aload_n 0, 1) := by decide +kernel
theorem dX6_count_14 : decode cX6_count 14 = .ok (.getfield 55, 3) := by decide +kernel
theorem dX6_count_17 : decode cX6_count 17 = .ok (.iload_n 1, 1) := by decide +kernel
theorem dX6_count_18 : decode cX6_count 18 = .ok (.iaload, 1) := by decide +kernel
theorem dX6_count_19 : decode cX6_count 19 = .ok (.ireturn, 1) := by decide +kernel
theorem dX6_count_20 : decode cX6_count 20 = .ok (.iload_n 1, 1) := by decide +kernel
theorem dX6_count_21 : decode cX6_count 21 = .ok (.tableswitch 66 11 15 #[35, 43, 48, 53, 58], 35) := by decide +kernel
theorem dX6_count_56 : decode cX6_count 56 = .ok (.aload_n 0, 1) := by decide +kernel
