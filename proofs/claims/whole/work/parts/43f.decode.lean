theorem dX7_toFour_88 : decode cX7_toFour 88 = .ok (.getfield 58, 3) := by decide +kernel
theorem dX7_toFour_91 : decode cX7_toFour 91 = .ok (.iconst 1, 1) := by decide +kernel
theorem dX7_toFour_92 : decode cX7_toFour 92 = .ok (.invokestatic 111, 3) := by decide +kernel
theorem dX7_toFour_95 : decode cX7_toFour 95 = .ok (.invokevirtual 340, 3) := by decide +kernel
theorem dX7_toFour_98 : decode cX7_toFour 98 = .ok (.ifCond .ne 6, 3) := by decide +kernel
theorem dX7_toFour_101 : decode cX7_toFour 101 = .ok (.bipush 8, 2) := by decide +kernel
theorem dX7_toFour_103 : decode cX7_toFour 103 = .ok (.ireturn, 1) := by decide +kernel
theorem dX7_toFour_104 : decode cX7_toFour 104 = .ok (.aload_n 0, 1) := by decide +kernel
theorem dX7_toFour_105 : decode cX7_toFour 105 = .ok (.getfield 137, 3) := by decide +kernel
theorem dX7_toFour_108 : decode cX7_toFour 108 = .ok (.istore_n 3, 1) := by decide +kernel
theorem dX7_toFour_109 : decode cX7_toFour 109 = .ok (.aload_n 0, 1) := by decide +kernel
theorem dX7_toFour_110 : decode cX7_toFour 110 = .ok (.getfield 140, 3) := by decide +kernel
theorem dX7_toFour_113 : decode cX7_toFour 113 = .ok (.istore 4, 2) := by decide +kernel
theorem dX7_toFour_115 : decode cX7_toFour 115 = .ok (.aload_n 0, 1) := by decide +kernel
theorem dX7_toFour_116 : decode cX7_toFour 116 = .ok (.getfield 306, 3) := by decide +kernel
theorem dX7_toFour_119 : decode cX7_toFour 119 = .ok (.istore 5, 2) := by decide +kernel
theorem dX7_toFour_121 : decode cX7_toFour 121 = .ok (.aload_n 0, 1) := by decide +kernel
theorem dX7_toFour_122 : decode cX7_toFour 122 = .ok (.aload_n 0, 1) := by decide +kernel
theorem dX7_toFour_123 : decode cX7_toFour 123 = .ok (.getfield 306, 3) := by decide +kernel
theorem dX7_toFour_126 : decode cX7_toFour 126 = .ok (.bipush 8, 2) := by decide +kernel
theorem dX7_toFour_128 : decode cX7_toFour 128 = .ok (.iadd, 1) := by decide +kernel
theorem dX7_toFour_129 : decode cX7_toFour 129 = .ok (.iload_n 1, 1) := by decide +kernel
theorem dX7_toFour_130 : decode cX7_toFour 130 = .ok (.bipush 8, 2) := by decide +kernel
theorem dX7_toFour_132 : decode cX7_toFour 132 = .ok (.isub, 1) := by decide +kernel
theorem dX7_toFour_133 : decode cX7_toFour 133 = .ok (.invokevirtual 343, 3) := by decide +kernel
theorem dX7_toFour_136 : decode cX7_toFour 136 = .ok (.istore 6, 2) := by decide +kernel
theorem dX7_toFour_138 : decode cX7_toFour 138 = .ok (.aload_n 0, 1) := by decide +kernel
theorem dX7_toFour_139 : decode cX7_toFour 139 = .ok (.iload_n 3, 1) := by decide +kernel
theorem dX7_toFour_140 : decode cX7_toFour 140 = .ok (.putfield 137, 3) := by decide +kernel
theorem dX7_toFour_143 : decode cX7_toFour 143 = .ok (.aload_n 0, 1) := by decide +kernel
theorem dX7_toFour_144 : decode cX7_toFour 144 = .ok (.iload 4, 2) := by decide +kernel
theorem dX7_toFour_146 : decode cX7_toFour 146 = .ok (.putfield 140, 3) := by decide +kernel
theorem dX7_toFour_149 : decode cX7_toFour 149 = .ok (.aload_n 0, 1) := by decide +kernel
theorem dX7_toFour_150 : decode cX7_toFour 150 = .ok (.iload 5, 2) := by decide +kernel
theorem dX7_toFour_152 : decode cX7_toFour 152 = .ok (.putfield 306, 3) := by decide +kernel
theorem dX7_toFour_155 : decode cX7_toFour 155 = .ok (.aload_n 0, 1) := by decide +kernel
theorem dX7_toFour_156 : decode cX7_toFour 156 = .ok (.bipush 58, 2) := by decide +kernel
theorem dX7_toFour_158 : decode cX7_toFour 158 = .ok (.putfield 197, 3) := by decide +kernel
theorem dX7_toFour_161 : decode cX7_toFour 161 = .ok (.aload_n 0, 1) := by decide +kernel
theorem dX7_toFour_162 : decode cX7_toFour 162 = .ok (.iconst 0, 1) := by decide +kernel
theorem dX7_toFour_163 : decode cX7_toFour 163 = .ok (.putfield 191, 3) := by decide +kernel
theorem dX7_toFour_166 : decode cX7_toFour 166 = .ok (.aload_n 0, 1) := by decide +kernel
theorem dX7_toFour_167 : decode cX7_toFour 167 = .ok (.iconst 0, 1) := by decide +kernel
theorem dX7_toFour_168 : decode cX7_toFour 168 = .ok (.putfield 194, 3) := by decide +kernel
theorem dX7_toFour_171 : decode cX7_toFour 171 = .ok (.iload 6, 2) := by decide +kernel
theorem dX7_toFour_173 : decode cX7_toFour 173 = .ok (.ifCond .ne 6, 3) := by decide +kernel
theorem dX7_toFour_176 : decode cX7_toFour 176 = .ok (.bipush 8, 2) := by decide +kernel
theorem dX7_toFour_178 : decode cX7_toFour 178 = .ok (.ireturn, 1) := by decide +kernel
theorem dX7_toFour_179 : decode cX7_toFour 179 = .ok (.aload_n 0, 1) := by decide +kernel
theorem dX7_toFour_180 : decode cX7_toFour 180 = .ok (.getfield 134, 3) := by decide +kernel
theorem dX7_toFour_183 : decode cX7_toFour 183 = .ok (.sipush 556, 3) := by decide +kernel
theorem dX7_toFour_186 : decode cX7_toFour 186 = .ok (.if_icmp .le 10, 3) := by decide +kernel
theorem dX7_toFour_189 : decode cX7_toFour 189 = .ok (.aload_n 0, 1) := by decide +kernel
theorem dX7_toFour_190 : decode cX7_toFour 190 = .ok (.sipush 556, 3) := by decide +kernel
theorem dX7_toFour_193 : decode cX7_toFour 193 = .ok (.putfield 134, 3) := by decide +kernel
theorem dX7_toFour_196 : decode cX7_toFour 196 = .ok (.aload_n 0, 1) := by decide +kernel
theorem dX7_toFour_197 : decode cX7_toFour 197 = .ok (.getfield 58, 3) := by decide +kernel
theorem dX7_toFour_200 : decode cX7_toFour 200 = .ok (.iconst 0, 1) := by decide +kernel
theorem dX7_toFour_201 : decode cX7_toFour 201 = .ok (.aload_n 0, 1) := by decide +kernel
theorem dX7_toFour_202 : decode cX7_toFour 202 = .ok (.getfield 269, 3) := by decide +kernel
theorem dX7_toFour_205 : decode cX7_toFour 205 = .ok (.bipush 24, 2) := by decide +kernel
theorem dX7_toFour_207 : decode cX7_toFour 207 = .ok (.ishl, 1) := by decide +kernel
theorem dX7_toFour_208 : decode cX7_toFour 208 = .ok (.aload_n 0, 1) := by decide +kernel
theorem dX7_toFour_209 : decode cX7_toFour 209 = .ok (.getfield 272, 3) := by decide +kernel
theorem dX7_toFour_212 : decode cX7_toFour 212 = .ok (.bipush 16, 2) := by decide +kernel
theorem dX7_toFour_214 : decode cX7_toFour 214 = .ok (.ishl, 1) := by decide +kernel
theorem dX7_toFour_215 : decode cX7_toFour 215 = .ok (.ior, 1) := by decide +kernel
theorem dX7_toFour_216 : decode cX7_toFour 216 = .ok (.invokestatic 125, 3) := by decide +kernel
theorem dX7_toFour_219 : decode cX7_toFour 219 = .ok (.aload_n 0, 1) := by decide +kernel
theorem dX7_toFour_220 : decode cX7_toFour 220 = .ok (.getfield 58, 3) := by decide +kernel
theorem dX7_toFour_223 : decode cX7_toFour 223 = .ok (.iconst 4, 1) := by decide +kernel
theorem dX7_toFour_224 : decode cX7_toFour 224 = .ok (.aload_n 0, 1) := by decide +kernel
theorem dX7_toFour_225 : decode cX7_toFour 225 = .ok (.getfield 275, 3) := by decide +kernel
theorem dX7_toFour_228 : decode cX7_toFour 228 = .ok (.invokestatic 125, 3) := by decide +kernel
theorem dX7_toFour_231 : decode cX7_toFour 231 = .ok (.aload_n 0, 1) := by decide +kernel
theorem dX7_toFour_232 : decode cX7_toFour 232 = .ok (.lconst 0, 1) := by decide +kernel
theorem dX7_toFour_233 : decode cX7_toFour 233 = .ok (.putfield 102, 3) := by decide +kernel
theorem dX7_toFour_236 : decode cX7_toFour 236 = .ok (.aload_n 0, 1) := by decide +kernel
theorem dX7_toFour_237 : decode cX7_toFour 237 = .ok (.aload_n 0, 1) := by decide +kernel
theorem dX7_toFour_238 : decode cX7_toFour 238 = .ok (.getfield 58, 3) := by decide +kernel
theorem dX7_toFour_241 : decode cX7_toFour 241 = .ok (.iconst 0, 1) := by decide +kernel
theorem dX7_toFour_242 : decode cX7_toFour 242 = .ok (.aload_n 0, 1) := by decide +kernel
theorem dX7_toFour_243 : decode cX7_toFour 243 = .ok (.getfield 134, 3) := by decide +kernel
theorem dX7_toFour_246 : decode cX7_toFour 246 = .ok (.invokevirtual 206, 3) := by decide +kernel
theorem dX7_toFour_249 : decode cX7_toFour 249 = .ok (.aload_n 0, 1) := by decide +kernel
theorem dX7_toFour_250 : decode cX7_toFour 250 = .ok (.getfield 58, 3) := by decide +kernel
theorem dX7_toFour_253 : decode cX7_toFour 253 = .ok (.iconst 2, 1) := by decide +kernel
theorem dX7_toFour_254 : decode cX7_toFour 254 = .ok (.aload_n 0, 1) := by decide +kernel
theorem dX7_toFour_255 : decode cX7_toFour 255 = .ok (.invokevirtual 177, 3) := by decide +kernel
theorem dX7_toFour_258 : decode cX7_toFour 258 = .ok (.invokestatic 121, 3) := by decide +kernel
theorem dX7_toFour_261 : decode cX7_toFour 261 = .ok (.iconst 0, 1) := by decide +kernel
theorem dX7_toFour_262 : decode cX7_toFour 262 = .ok (.ireturn, 1) := by decide +kernel
theorem dX7_errorToFour_0 : decode cX7_errorToFour 0 = .ok (.aload_n 0, 1) := by decide +kernel
theorem dX7_errorToFour_1 : decode cX7_errorToFour 1 = .ok (.getfield 58, 3) := by decide +kernel
theorem dX7_errorToFour_4 : decode cX7_errorToFour 4 = .ok (.iconst 4, 1) := by decide +kernel
theorem dX7_errorToFour_5 : decode cX7_errorToFour 5 = .ok (.invokestatic 118, 3) := by decide +kernel
theorem dX7_errorToFour_8 : decode cX7_errorToFour 8 = .ok (.i2l, 1) := by decide +kernel
theorem dX7_errorToFour_9 : decode cX7_errorToFour 9 = .ok (.ldc2_w 98, 3) := by decide +kernel
theorem dX7_errorToFour_12 : decode cX7_errorToFour 12 = .ok (.land, 1) := by decide +kernel
theorem dX7_errorToFour_13 : decode cX7_errorToFour 13 = .ok (.lstore_n 3, 1) := by decide +kernel
theorem dX7_errorToFour_14 : decode cX7_errorToFour 14 = .ok (.iload_n 1, 1) := by decide +kernel
theorem dX7_errorToFour_15 : decode cX7_errorToFour 15 = .ok (.tableswitch 158 1 3 #[25, 66, 148], 25) := by decide +kernel
theorem dX7_errorToFour_40 : decode cX7_errorToFour 40 = .ok (.aload_n 0, 1) := by decide +kernel
theorem dX7_errorToFour_41 : decode cX7_errorToFour 41 = .ok (.iconst 3, 1) := by decide +kernel
theorem dX7_errorToFour_42 : decode cX7_errorToFour 42 = .ok (.iload_n 2, 1) := by decide +kernel
theorem dX7_errorToFour_43 : decode cX7_errorToFour 43 = .ok (.iconst 1, 1) := by decide +kernel
theorem dX7_errorToFour_44 : decode cX7_errorToFour 44 = .ok (.if_icmp .ne 8, 3) := by decide +kernel
theorem dX7_errorToFour_47 : decode cX7_errorToFour 47 = .ok (.bipush 10, 2) := by decide +kernel
theorem dX7_errorToFour_49 : decode cX7_errorToFour 49 = .ok (.goto 13, 3) := by decide +kernel
theorem dX7_errorToFour_52 : decode cX7_errorToFour 52 = .ok (.iload_n 2, 1) := by decide +kernel
theorem dX7_errorToFour_53 : decode cX7_errorToFour 53 = .ok (.iconst 4, 1) := by decide +kernel
theorem dX7_errorToFour_54 : decode cX7_errorToFour 54 = .ok (.if_icmp .ne 7, 3) := by decide +kernel
theorem dX7_errorToFour_57 : decode cX7_errorToFour 57 = .ok (.iconst 3, 1) := by decide +kernel
theorem dX7_errorToFour_58 : decode cX7_errorToFour 58 = .ok (.goto 4, 3) := by decide +kernel
theorem dX7_errorToFour_61 : decode cX7_errorToFour 61 = .ok (.iconst 1, 1) := by decide +kernel
theorem dX7_errorToFour_62 : decode cX7_errorToFour 62 = .ok (.iconst 0, 1) := by decide +kernel
theorem dX7_errorToFour_63 : decode cX7_errorToFour 63 = .ok (.invokevirtual 288, 3) := by decide +kernel
theorem dX7_errorToFour_66 : decode cX7_errorToFour 66 = .ok (.iload_n 2, 1) := by decide +kernel
theorem dX7_errorToFour_67 : decode cX7_errorToFour 67 = .ok (.ifCond .lt 12, 3) := by decide +kernel
theorem dX7_errorToFour_70 : decode cX7_errorToFour 70 = .ok (.iload_n 2, 1) := by decide +kernel
theorem dX7_errorToFour_71 : decode cX7_errorToFour 71 = .ok (.iconst 4, 1) := by decide +kernel
theorem dX7_errorToFour_72 : decode cX7_errorToFour 72 = .ok (.if_icmp .gt 7, 3) := by decide +kernel
theorem dX7_errorToFour_75 : decode cX7_errorToFour 75 = .ok (.iconst 1, 1) := by decide +kernel
theorem dX7_errorToFour_76 : decode cX7_errorToFour 76 = .ok (.goto 4, 3) := by decide +kernel
theorem dX7_errorToFour_79 : decode cX7_errorToFour 79 = .ok (.iconst 0, 1) := by decide +kernel
theorem dX7_errorToFour_80 : decode cX7_errorToFour 80 = .ok (.ireturn, 1) := by decide +kernel
theorem dX7_errorToFour_81 : decode cX7_errorToFour 81 = .ok (.lload_n 3, 1) := by decide +kernel
theorem dX7_errorToFour_82 : decode cX7_errorToFour 82 = .ok (.ldc2_w 346, 3) := by decide +kernel
theorem dX7_errorToFour_85 : decode cX7_errorToFour 85 = .ok (.lcmp, 1) := by decide +kernel
theorem dX7_errorToFour_86 : decode cX7_errorToFour 86 = .ok (.ifCond .ge 7, 3) := by decide +kernel
theorem dX7_errorToFour_89 : decode cX7_errorToFour 89 = .ok (.lconst 0, 1) := by decide +kernel
theorem dX7_errorToFour_90 : decode cX7_errorToFour 90 = .ok (.goto 8, 3) := by decide +kernel
theorem dX7_errorToFour_93 : decode cX7_errorToFour 93 = .ok (.lload_n 3, 1) := by decide +kernel
theorem dX7_errorToFour_94 : decode cX7_errorToFour 94 = .ok (.ldc2_w 346, 3) := by decide +kernel
theorem dX7_errorToFour_97 : decode cX7_errorToFour 97 = .ok (.lsub, 1) := by decide +kernel
theorem dX7_errorToFour_98 : decode cX7_errorToFour 98 = .ok (.lstore 5, 2) := by decide +kernel
theorem dX7_errorToFour_100 : decode cX7_errorToFour 100 = .ok (.lload 5, 2) := by decide +kernel
theorem dX7_errorToFour_102 : decode cX7_errorToFour 102 = .ok (.aload_n 0, 1) := by decide +kernel
theorem dX7_errorToFour_103 : decode cX7_errorToFour 103 = .ok (.getfield 35, 3) := by decide +kernel
theorem dX7_errorToFour_106 : decode cX7_errorToFour 106 = .ok (.i2l, 1) := by decide +kernel
theorem dX7_errorToFour_107 : decode cX7_errorToFour 107 = .ok (.lcmp, 1) := by decide +kernel
theorem dX7_errorToFour_108 : decode cX7_errorToFour 108 = .ok (.ifCond .ge 8, 3) := by decide +kernel
theorem dX7_errorToFour_111 : decode cX7_errorToFour 111 = .ok (.lload 5, 2) := by decide +kernel
theorem dX7_errorToFour_113 : decode cX7_errorToFour 113 = .ok (.goto 8, 3) := by decide +kernel
theorem dX7_errorToFour_116 : decode cX7_errorToFour 116 = .ok (.aload_n 0, 1) := by decide +kernel
theorem dX7_errorToFour_117 : decode cX7_errorToFour 117 = .ok (.getfield 35, 3) := by decide +kernel
theorem dX7_errorToFour_120 : decode cX7_errorToFour 120 = .ok (.i2l, 1) := by decide +kernel
theorem dX7_errorToFour_121 : decode cX7_errorToFour 121 = .ok (.lstore 5, 2) := by decide +kernel
theorem dX7_errorToFour_123 : decode cX7_errorToFour 123 = .ok (.lload 5, 2) := by decide +kernel
theorem dX7_errorToFour_125 : decode cX7_errorToFour 125 = .ok (.aload_n 0, 1) := by decide +kernel
theorem dX7_errorToFour_126 : decode cX7_errorToFour 126 = .ok (.getfield 38, 3) := by decide +kernel
theorem dX7_errorToFour_129 : decode cX7_errorToFour 129 = .ok (.bipush 20, 2) := by decide +kernel
theorem dX7_errorToFour_131 : decode cX7_errorToFour 131 = .ok (.isub, 1) := by decide +kernel
theorem dX7_errorToFour_132 : decode cX7_errorToFour 132 = .ok (.i2l, 1) := by decide +kernel
theorem dX7_errorToFour_133 : decode cX7_errorToFour 133 = .ok (.lcmp, 1) := by decide +kernel
theorem dX7_errorToFour_134 : decode cX7_errorToFour 134 = .ok (.ifCond .ge 8, 3) := by decide +kernel
theorem dX7_errorToFour_137 : decode cX7_errorToFour 137 = .ok (.lload 5, 2) := by decide +kernel
theorem dX7_errorToFour_139 : decode cX7_errorToFour 139 = .ok (.goto 11, 3) := by decide +kernel
theorem dX7_errorToFour_142 : decode cX7_errorToFour 142 = .ok (.aload_n 0, 1) := by decide +kernel
theorem dX7_errorToFour_143 : decode cX7_errorToFour 143 = .ok (.getfield 38, 3) := by decide +kernel
theorem dX7_errorToFour_146 : decode cX7_errorToFour 146 = .ok (.bipush 20, 2) := by decide +kernel
theorem dX7_errorToFour_148 : decode cX7_errorToFour 148 = .ok (.isub, 1) := by decide +kernel
theorem dX7_errorToFour_149 : decode cX7_errorToFour 149 = .ok (.i2l, 1) := by decide +kernel
theorem dX7_errorToFour_150 : decode cX7_errorToFour 150 = .ok (.lstore 5, 2) := by decide +kernel
theorem dX7_errorToFour_152 : decode cX7_errorToFour 152 = .ok (.aload_n 0, 1) := by decide +kernel
theorem dX7_errorToFour_153 : decode cX7_errorToFour 153 = .ok (.iconst 3, 1) := by decide +kernel
theorem dX7_errorToFour_154 : decode cX7_errorToFour 154 = .ok (.iconst 4, 1) := by decide +kernel
theorem dX7_errorToFour_155 : decode cX7_errorToFour 155 = .ok (.lload 5, 2) := by decide +kernel
theorem dX7_errorToFour_157 : decode cX7_errorToFour 157 = .ok (.l2i, 1) := by decide +kernel
theorem dX7_errorToFour_158 : decode cX7_errorToFour 158 = .ok (.invokevirtual 288, 3) := by decide +kernel
theorem dX7_errorToFour_161 : decode cX7_errorToFour 161 = .ok (.iconst 1, 1) := by decide +kernel
theorem dX7_errorToFour_162 : decode cX7_errorToFour 162 = .ok (.ireturn, 1) := by decide +kernel
theorem dX7_errorToFour_163 : decode cX7_errorToFour 163 = .ok (.aload_n 0, 1) := by decide +kernel
theorem dX7_errorToFour_164 : decode cX7_errorToFour 164 = .ok (.bipush 11, 2) := by decide +kernel
theorem dX7_errorToFour_166 : decode cX7_errorToFour 166 = .ok (.iload_n 2, 1) := by decide +kernel
theorem dX7_errorToFour_167 : decode cX7_errorToFour 167 = .ok (.iconst 0, 1) := by decide +kernel
theorem dX7_errorToFour_168 : decode cX7_errorToFour 168 = .ok (.invokevirtual 288, 3) := by decide +kernel
theorem dX7_errorToFour_171 : decode cX7_errorToFour 171 = .ok (.iconst 1, 1) := by decide +kernel
theorem dX7_errorToFour_172 : decode cX7_errorToFour 172 = .ok (.ireturn, 1) := by decide +kernel
theorem dX7_errorToFour_173 : decode cX7_errorToFour 173 = .ok (.iload_n 2, 1) := by decide +kernel
theorem dX7_errorToFour_174 : decode cX7_errorToFour 174 = .ok (.iconst 1, 1) := by decide +kernel
theorem dX7_errorToFour_175 : decode cX7_errorToFour 175 = .ok (.if_icmp .ne 12, 3) := by decide +kernel
theorem dX7_errorToFour_178 : decode cX7_errorToFour 178 = .ok (.aload_n 0, 1) := by decide +kernel
theorem dX7_errorToFour_179 : decode cX7_errorToFour 179 = .ok (.iconst 3, 1) := by decide +kernel
theorem dX7_errorToFour_180 : decode cX7_errorToFour 180 = .ok (.iconst 2, 1) := by decide +kernel
theorem dX7_errorToFour_181 : decode cX7_errorToFour 181 = .ok (.iconst 0, 1) := by decide +kernel
theorem dX7_errorToFour_182 : decode cX7_errorToFour 182 = .ok (.invokevirtual 288, 3) := by decide +kernel
theorem dX7_errorToFour_185 : decode cX7_errorToFour 185 = .ok (.iconst 1, 1) := by decide +kernel
theorem dX7_errorToFour_186 : decode cX7_errorToFour 186 = .ok (.ireturn, 1) := by decide +kernel
theorem dX7_errorToFour_187 : decode cX7_errorToFour 187 = .ok (.lload_n 3, 1) := by decide +kernel
theorem dX7_errorToFour_188 : decode cX7_errorToFour 188 = .ok (.ldc2_w 348, 3) := by decide +kernel
theorem dX7_errorToFour_191 : decode cX7_errorToFour 191 = .ok (.lcmp, 1) := by decide +kernel
theorem dX7_errorToFour_192 : decode cX7_errorToFour 192 = .ok (.ifCond .ge 8, 3) := by decide +kernel
theorem dX7_errorToFour_195 : decode cX7_errorToFour 195 = .ok (.lload_n 3, 1) := by decide +kernel
theorem dX7_errorToFour_196 : decode cX7_errorToFour 196 = .ok (.l2i, 1) := by decide +kernel
theorem dX7_errorToFour_197 : decode cX7_errorToFour 197 = .ok (.goto 92, 3) := by decide +kernel
theorem dX7_errorToFour_200 : decode cX7_errorToFour 200 = .ok (.lload_n 3, 1) := by decide +kernel
theorem dX7_errorToFour_201 : decode cX7_errorToFour 201 = .ok (.ldc2_w 350, 3) := by decide +kernel
theorem dX7_errorToFour_204 : decode cX7_errorToFour 204 = .ok (.lcmp, 1) := by decide +kernel
theorem dX7_errorToFour_205 : decode cX7_errorToFour 205 = .ok (.ifCond .eq 11, 3) := by decide +kernel
theorem dX7_errorToFour_208 : decode cX7_errorToFour 208 = .ok (.lload_n 3, 1) := by decide +kernel
theorem dX7_errorToFour_209 : decode cX7_errorToFour 209 = .ok (.ldc2_w 352, 3) := by decide +kernel
theorem dX7_errorToFour_212 : decode cX7_errorToFour 212 = .ok (.lcmp, 1) := by decide +kernel
theorem dX7_errorToFour_213 : decode cX7_errorToFour 213 = .ok (.ifCond .ne 7, 3) := by decide +kernel
theorem dX7_errorToFour_216 : decode cX7_errorToFour 216 = .ok (.iconst 2, 1) := by decide +kernel
theorem dX7_errorToFour_217 : decode cX7_errorToFour 217 = .ok (.goto 72, 3) := by decide +kernel
theorem dX7_errorToFour_220 : decode cX7_errorToFour 220 = .ok (.lload_n 3, 1) := by decide +kernel
theorem dX7_errorToFour_221 : decode cX7_errorToFour 221 = .ok (.ldc2_w 354, 3) := by decide +kernel
theorem dX7_errorToFour_224 : decode cX7_errorToFour 224 = .ok (.lcmp, 1) := by decide +kernel
theorem dX7_errorToFour_225 : decode cX7_errorToFour 225 = .ok (.ifCond .ne 8, 3) := by decide +kernel
theorem dX7_errorToFour_228 : decode cX7_errorToFour 228 = .ok (.bipush 9, 2) := by decide +kernel
theorem dX7_errorToFour_230 : decode cX7_errorToFour 230 = .ok (.goto 59, 3) := by decide +kernel
theorem dX7_errorToFour_233 : decode cX7_errorToFour 233 = .ok (.lload_n 3, 1) := by decide +kernel
theorem dX7_errorToFour_234 : decode cX7_errorToFour 234 = .ok (.ldc2_w 356, 3) := by decide +kernel
theorem dX7_errorToFour_237 : decode cX7_errorToFour 237 = .ok (.lcmp, 1) := by decide +kernel
theorem dX7_errorToFour_238 : decode cX7_errorToFour 238 = .ok (.ifCond .ne 8, 3) := by decide +kernel
theorem dX7_errorToFour_241 : decode cX7_errorToFour 241 = .ok (.bipush 8, 2) := by decide +kernel
theorem dX7_errorToFour_243 : decode cX7_errorToFour 243 = .ok (.goto 46, 3) := by decide +kernel
theorem dX7_errorToFour_246 : decode cX7_errorToFour 246 = .ok (.lload_n 3, 1) := by decide +kernel
theorem dX7_errorToFour_247 : decode cX7_errorToFour 247 = .ok (.ldc2_w 358, 3) := by decide +kernel
theorem dX7_errorToFour_250 : decode cX7_errorToFour 250 = .ok (.lcmp, 1) := by decide +kernel
theorem dX7_errorToFour_251 : decode cX7_errorToFour 251 = .ok (.ifCond .lt 16, 3) := by decide +kernel
theorem dX7_errorToFour_254 : decode cX7_errorToFour 254 = .ok (.lload_n 3, 1) := by decide +kernel
theorem dX7_errorToFour_255 : decode cX7_errorToFour 255 = .ok (.ldc2_w 360, 3) := by decide +kernel
theorem dX7_errorToFour_258 : decode cX7_errorToFour 258 = .ok (.lcmp, 1) := by decide +kernel
theorem dX7_errorToFour_259 : decode cX7_errorToFour 259 = .ok (.ifCond .ge 8, 3) := by decide +kernel
theorem dX7_errorToFour_262 : decode cX7_errorToFour 262 = .ok (.bipush 12, 2) := by decide +kernel
theorem dX7_errorToFour_264 : decode cX7_errorToFour 264 = .ok (.goto 25, 3) := by decide +kernel
theorem dX7_errorToFour_267 : decode cX7_errorToFour 267 = .ok (.lload_n 3, 1) := by decide +kernel
theorem dX7_errorToFour_268 : decode cX7_errorToFour 268 = .ok (.ldc2_w 360, 3) := by decide +kernel
theorem dX7_errorToFour_271 : decode cX7_errorToFour 271 = .ok (.lcmp, 1) := by decide +kernel
theorem dX7_errorToFour_272 : decode cX7_errorToFour 272 = .ok (.ifCond .lt 16, 3) := by decide +kernel
theorem dX7_errorToFour_275 : decode cX7_errorToFour 275 = .ok (.lload_n 3, 1) := by decide +kernel
theorem dX7_errorToFour_276 : decode cX7_errorToFour 276 = .ok (.ldc2_w 362, 3) := by decide +kernel
theorem dX7_errorToFour_279 : decode cX7_errorToFour 279 = .ok (.lcmp, 1) := by decide +kernel
theorem dX7_errorToFour_280 : decode cX7_errorToFour 280 = .ok (.ifCond .ge 8, 3) := by decide +kernel
theorem dX7_errorToFour_283 : decode cX7_errorToFour 283 = .ok (.bipush 16, 2) := by decide +kernel
theorem dX7_errorToFour_285 : decode cX7_errorToFour 285 = .ok (.goto 4, 3) := by decide +kernel
theorem dX7_errorToFour_288 : decode cX7_errorToFour 288 = .ok (.iconst (-1), 1) := by decide +kernel
theorem dX7_errorToFour_289 : decode cX7_errorToFour 289 = .ok (.istore 5, 2) := by decide +kernel
theorem dX7_errorToFour_291 : decode cX7_errorToFour 291 = .ok (.aload_n 0, 1) := by decide +kernel
theorem dX7_errorToFour_292 : decode cX7_errorToFour 292 = .ok (.bipush 12, 2) := by decide +kernel
theorem dX7_errorToFour_294 : decode cX7_errorToFour 294 = .ok (.iconst 0, 1) := by decide +kernel
theorem dX7_errorToFour_295 : decode cX7_errorToFour 295 = .ok (.iload 5, 2) := by decide +kernel
theorem dX7_errorToFour_297 : decode cX7_errorToFour 297 = .ok (.bipush 24, 2) := by decide +kernel
theorem dX7_errorToFour_299 : decode cX7_errorToFour 299 = .ok (.ishl, 1) := by decide +kernel
theorem dX7_errorToFour_300 : decode cX7_errorToFour 300 = .ok (.invokevirtual 288, 3) := by decide +kernel
theorem dX7_errorToFour_303 : decode cX7_errorToFour 303 = .ok (.iload_n 2, 1) := by decide +kernel
theorem dX7_errorToFour_304 : decode cX7_errorToFour 304 = .ok (.ifCond .ne 12, 3) := by decide +kernel
theorem dX7_errorToFour_307 : decode cX7_errorToFour 307 = .ok (.iload 5, 2) := by decide +kernel
theorem dX7_errorToFour_309 : decode cX7_errorToFour 309 = .ok (.ifCond .lt 7, 3) := by decide +kernel
theorem dX7_errorToFour_312 : decode cX7_errorToFour 312 = .ok (.iconst 1, 1) := by decide +kernel
theorem dX7_errorToFour_313 : decode cX7_errorToFour 313 = .ok (.goto 4, 3) := by decide +kernel
theorem dX7_errorToFour_316 : decode cX7_errorToFour 316 = .ok (.iconst 0, 1) := by decide +kernel
theorem dX7_errorToFour_317 : decode cX7_errorToFour 317 = .ok (.ireturn, 1) := by decide +kernel
theorem dX7_innerToFour_0 : decode cX7_innerToFour 0 = .ok (.iload_n 2, 1) := by decide +kernel
theorem dX7_innerToFour_1 : decode cX7_innerToFour 1 = .ok (.bipush 40, 2) := by decide +kernel
theorem dX7_innerToFour_3 : decode cX7_innerToFour 3 = .ok (.if_icmp .lt 18, 3) := by decide +kernel
theorem dX7_innerToFour_6 : decode cX7_innerToFour 6 = .ok (.aload_n 0, 1) := by decide +kernel
theorem dX7_innerToFour_7 : decode cX7_innerToFour 7 = .ok (.getfield 7, 3) := by decide +kernel
theorem dX7_innerToFour_10 : decode cX7_innerToFour 10 = .ok (.iload_n 1, 1) := by decide +kernel
theorem dX7_innerToFour_11 : decode cX7_innerToFour 11 = .ok (.invokestatic 111, 3) := by decide +kernel
theorem dX7_innerToFour_14 : decode cX7_innerToFour 14 = .ok (.iconst 4, 1) := by decide +kernel
theorem dX7_innerToFour_15 : decode cX7_innerToFour 15 = .ok (.ishr, 1) := by decide +kernel
theorem dX7_innerToFour_16 : decode cX7_innerToFour 16 = .ok (.bipush 6, 2) := by decide +kernel
theorem dX7_innerToFour_18 : decode cX7_innerToFour 18 = .ok (.if_icmp .eq 5, 3) := by decide +kernel
theorem dX7_innerToFour_21 : decode cX7_innerToFour 21 = .ok (.iconst 0, 1) := by decide +kernel
theorem dX7_innerToFour_22 : decode cX7_innerToFour 22 = .ok (.ireturn, 1) := by decide +kernel
theorem dX7_innerToFour_23 : decode cX7_innerToFour 23 = .ok (.aload_n 0, 1) := by decide +kernel
theorem dX7_innerToFour_24 : decode cX7_innerToFour 24 = .ok (.getfield 7, 3) := by decide +kernel
theorem dX7_innerToFour_27 : decode cX7_innerToFour 27 = .ok (.iload_n 1, 1) := by decide +kernel
theorem dX7_innerToFour_28 : decode cX7_innerToFour 28 = .ok (.iconst 4, 1) := by decide +kernel
theorem dX7_innerToFour_29 : decode cX7_innerToFour 29 = .ok (.iadd, 1) := by decide +kernel
theorem dX7_innerToFour_30 : decode cX7_innerToFour 30 = .ok (.invokestatic 115, 3) := by decide +kernel
theorem dX7_innerToFour_33 : decode cX7_innerToFour 33 = .ok (.istore_n 3, 1) := by decide +kernel
theorem dX7_innerToFour_34 : decode cX7_innerToFour 34 = .ok (.iload_n 1, 1) := by decide +kernel
theorem dX7_innerToFour_35 : decode cX7_innerToFour 35 = .ok (.iload_n 2, 1) := by decide +kernel
theorem dX7_innerToFour_36 : decode cX7_innerToFour 36 = .ok (.bipush 40, 2) := by decide +kernel
theorem dX7_innerToFour_38 : decode cX7_innerToFour 38 = .ok (.iload_n 3, 1) := by decide +kernel
theorem dX7_innerToFour_39 : decode cX7_innerToFour 39 = .ok (.iadd, 1) := by decide +kernel
theorem dX7_innerToFour_40 : decode cX7_innerToFour 40 = .ok (.if_icmp .ge 7, 3) := by decide +kernel
theorem dX7_innerToFour_43 : decode cX7_innerToFour 43 = .ok (.iload_n 2, 1) := by decide +kernel
theorem dX7_innerToFour_44 : decode cX7_innerToFour 44 = .ok (.goto 7, 3) := by decide +kernel
theorem dX7_innerToFour_47 : decode cX7_innerToFour 47 = .ok (.bipush 40, 2) := by decide +kernel
theorem dX7_innerToFour_49 : decode cX7_innerToFour 49 = .ok (.iload_n 3, 1) := by decide +kernel
theorem dX7_innerToFour_50 : decode cX7_innerToFour 50 = .ok (.iadd, 1) := by decide +kernel
theorem dX7_innerToFour_51 : decode cX7_innerToFour 51 = .ok (.iadd, 1) := by decide +kernel
theorem dX7_innerToFour_52 : decode cX7_innerToFour 52 = .ok (.istore 4, 2) := by decide +kernel
theorem dX7_innerToFour_54 : decode cX7_innerToFour 54 = .ok (.aload_n 0, 1) := by decide +kernel
theorem dX7_innerToFour_55 : decode cX7_innerToFour 55 = .ok (.iload_n 1, 1) := by decide +kernel
theorem dX7_innerToFour_56 : decode cX7_innerToFour 56 = .ok (.iload 4, 2) := by decide +kernel
theorem dX7_innerToFour_58 : decode cX7_innerToFour 58 = .ok (.invokevirtual 312, 3) := by decide +kernel
theorem dX7_innerToFour_61 : decode cX7_innerToFour 61 = .ok (.ifCond .eq 25, 3) := by decide +kernel
theorem dX7_innerToFour_64 : decode cX7_innerToFour 64 = .ok (.aload_n 0, 1) := by decide +kernel
theorem dX7_innerToFour_65 : decode cX7_innerToFour 65 = .ok (.aload_n 0, 1) := by decide +kernel
theorem dX7_innerToFour_66 : decode cX7_innerToFour 66 = .ok (.getfield 7, 3) := by decide +kernel
theorem dX7_innerToFour_69 : decode cX7_innerToFour 69 = .ok (.iload_n 1, 1) := by decide +kernel
theorem dX7_innerToFour_70 : decode cX7_innerToFour 70 = .ok (.invokevirtual 318, 3) := by decide +kernel
theorem dX7_innerToFour_73 : decode cX7_innerToFour 73 = .ok (.ifCond .eq 13, 3) := by decide +kernel
theorem dX7_innerToFour_76 : decode cX7_innerToFour 76 = .ok (.aload_n 0, 1) := by decide +kernel
theorem dX7_innerToFour_77 : decode cX7_innerToFour 77 = .ok (.getfield 197, 3) := by decide +kernel
theorem dX7_innerToFour_80 : decode cX7_innerToFour 80 = .ok (.invokestatic 325, 3) := by decide +kernel
theorem dX7_innerToFour_83 : decode cX7_innerToFour 83 = .ok (.ifCond .eq 5, 3) := by decide +kernel
theorem dX7_innerToFour_86 : decode cX7_innerToFour 86 = .ok (.iconst 0, 1) := by decide +kernel
theorem dX7_innerToFour_87 : decode cX7_innerToFour 87 = .ok (.ireturn, 1) := by decide +kernel
theorem dX7_innerToFour_88 : decode cX7_innerToFour 88 = .ok (.iload 4, 2) := by decide +kernel
theorem dX7_innerToFour_90 : decode cX7_innerToFour 90 = .ok (.aload_n 0, 1) := by decide +kernel
theorem dX7_innerToFour_91 : decode cX7_innerToFour 91 = .ok (.getfield 306, 3) := by decide +kernel
theorem dX7_innerToFour_94 : decode cX7_innerToFour 94 = .ok (.isub, 1) := by decide +kernel
theorem dX7_innerToFour_95 : decode cX7_innerToFour 95 = .ok (.istore 5, 2) := by decide +kernel
theorem dX7_innerToFour_97 : decode cX7_innerToFour 97 = .ok (.aload_n 0, 1) := by decide +kernel
theorem dX7_innerToFour_98 : decode cX7_innerToFour 98 = .ok (.getfield 194, 3) := by decide +kernel
theorem dX7_innerToFour_101 : decode cX7_innerToFour 101 = .ok (.ifCond .ne 10, 3) := by decide +kernel
theorem dX7_innerToFour_104 : decode cX7_innerToFour 104 = .ok (.aload_n 0, 1) := by decide +kernel
theorem dX7_innerToFour_105 : decode cX7_innerToFour 105 = .ok (.getfield 191, 3) := by decide +kernel
theorem dX7_innerToFour_108 : decode cX7_innerToFour 108 = .ok (.ifCond .le 7, 3) := by decide +kernel
theorem dX7_innerToFour_111 : decode cX7_innerToFour 111 = .ok (.iconst 1, 1) := by decide +kernel
theorem dX7_innerToFour_112 : decode cX7_innerToFour 112 = .ok (.goto 4, 3) := by decide +kernel
theorem dX7_innerToFour_115 : decode cX7_innerToFour 115 = .ok (.iconst 0, 1) := by decide +kernel
theorem dX7_innerToFour_116 : decode cX7_innerToFour 116 = .ok (.istore 6, 2) := by decide +kernel
theorem dX7_innerToFour_118 : decode cX7_innerToFour 118 = .ok (.aload_n 0, 1) := by decide +kernel
theorem dX7_innerToFour_119 : decode cX7_innerToFour 119 = .ok (.getfield 197, 3) := by decide +kernel
theorem dX7_innerToFour_122 : decode cX7_innerToFour 122 = .ok (.bipush 58, 2) := by decide +kernel
theorem dX7_innerToFour_124 : decode cX7_innerToFour 124 = .ok (.if_icmp .ne 50, 3) := by decide +kernel
theorem dX7_innerToFour_127 : decode cX7_innerToFour 127 = .ok (.iload 6, 2) := by decide +kernel
theorem dX7_innerToFour_129 : decode cX7_innerToFour 129 = .ok (.ifCond .ne 43, 3) := by decide +kernel
theorem dX7_innerToFour_132 : decode cX7_innerToFour 132 = .ok (.iload 5, 2) := by decide +kernel
theorem dX7_innerToFour_134 : decode cX7_innerToFour 134 = .ok (.iconst 4, 1) := by decide +kernel
theorem dX7_innerToFour_135 : decode cX7_innerToFour 135 = .ok (.if_icmp .lt 37, 3) := by decide +kernel
theorem dX7_innerToFour_138 : decode cX7_innerToFour 138 = .ok (.aload_n 0, 1) := by decide +kernel
theorem dX7_innerToFour_139 : decode cX7_innerToFour 139 = .ok (.getfield 7, 3) := by decide +kernel
theorem dX7_innerToFour_142 : decode cX7_innerToFour 142 = .ok (.aload_n 0, 1) := by decide +kernel
theorem dX7_innerToFour_143 : decode cX7_innerToFour 143 = .ok (.getfield 306, 3) := by decide +kernel
theorem dX7_innerToFour_146 : decode cX7_innerToFour 146 = .ok (.invokestatic 111, 3) := by decide +kernel
theorem dX7_innerToFour_149 : decode cX7_innerToFour 149 = .ok (.sipush 128, 3) := by decide +kernel
theorem dX7_innerToFour_152 : decode cX7_innerToFour 152 = .ok (.if_icmp .eq 22, 3) := by decide +kernel
theorem dX7_innerToFour_155 : decode cX7_innerToFour 155 = .ok (.aload_n 0, 1) := by decide +kernel
theorem dX7_innerToFour_156 : decode cX7_innerToFour 156 = .ok (.getfield 7, 3) := by decide +kernel
theorem dX7_innerToFour_159 : decode cX7_innerToFour 159 = .ok (.aload_n 0, 1) := by decide +kernel
theorem dX7_innerToFour_160 : decode cX7_innerToFour 160 = .ok (.getfield 306, 3) := by decide +kernel
theorem dX7_innerToFour_163 : decode cX7_innerToFour 163 = .ok (.invokestatic 111, 3) := by decide +kernel
theorem dX7_innerToFour_166 : decode cX7_innerToFour 166 = .ok (.sipush 129, 3) := by decide +kernel
theorem dX7_innerToFour_169 : decode cX7_innerToFour 169 = .ok (.if_icmp .eq 5, 3) := by decide +kernel
theorem dX7_innerToFour_172 : decode cX7_innerToFour 172 = .ok (.iconst 0, 1) := by decide +kernel
theorem dX7_innerToFour_173 : decode cX7_innerToFour 173 = .ok (.ireturn, 1) := by decide +kernel
theorem dX7_innerToFour_174 : decode cX7_innerToFour 174 = .ok (.iload_n 1, 1) := by decide +kernel
theorem dX7_innerToFour_175 : decode cX7_innerToFour 175 = .ok (.bipush 40, 2) := by decide +kernel
theorem dX7_innerToFour_177 : decode cX7_innerToFour 177 = .ok (.iadd, 1) := by decide +kernel
theorem dX7_innerToFour_178 : decode cX7_innerToFour 178 = .ok (.iload_n 3, 1) := by decide +kernel
theorem dX7_innerToFour_179 : decode cX7_innerToFour 179 = .ok (.iadd, 1) := by decide +kernel
theorem dX7_innerToFour_180 : decode cX7_innerToFour 180 = .ok (.aload_n 0, 1) := by decide +kernel
theorem dX7_innerToFour_181 : decode cX7_innerToFour 181 = .ok (.getfield 306, 3) := by decide +kernel
theorem dX7_innerToFour_184 : decode cX7_innerToFour 184 = .ok (.isub, 1) := by decide +kernel
theorem dX7_innerToFour_185 : decode cX7_innerToFour 185 = .ok (.istore 7, 2) := by decide +kernel
theorem dX7_innerToFour_187 : decode cX7_innerToFour 187 = .ok (.bipush 20, 2) := by decide +kernel
theorem dX7_innerToFour_189 : decode cX7_innerToFour 189 = .ok (.iload 7, 2) := by decide +kernel
theorem dX7_innerToFour_191 : decode cX7_innerToFour 191 = .ok (.iadd, 1) := by decide +kernel
theorem dX7_innerToFour_192 : decode cX7_innerToFour 192 = .ok (.ldc 107, 2) := by decide +kernel
theorem dX7_innerToFour_194 : decode cX7_innerToFour 194 = .ok (.if_icmp .le 5, 3) := by decide +kernel
theorem dX7_innerToFour_197 : decode cX7_innerToFour 197 = .ok (.iconst 0, 1) := by decide +kernel
theorem dX7_innerToFour_198 : decode cX7_innerToFour 198 = .ok (.ireturn, 1) := by decide +kernel
theorem dX7_innerToFour_199 : decode cX7_innerToFour 199 = .ok (.aload_n 0, 1) := by decide +kernel
theorem dX7_innerToFour_200 : decode cX7_innerToFour 200 = .ok (.getfield 128, 3) := by decide +kernel
theorem dX7_innerToFour_203 : decode cX7_innerToFour 203 = .ok (.istore 8, 2) := by decide +kernel
theorem dX7_innerToFour_205 : decode cX7_innerToFour 205 = .ok (.aload_n 0, 1) := by decide +kernel
theorem dX7_innerToFour_206 : decode cX7_innerToFour 206 = .ok (.bipush 20, 2) := by decide +kernel
theorem dX7_innerToFour_208 : decode cX7_innerToFour 208 = .ok (.invokevirtual 217, 3) := by decide +kernel
theorem dX7_innerToFour_211 : decode cX7_innerToFour 211 = .ok (.istore 9, 2) := by decide +kernel
theorem dX7_innerToFour_213 : decode cX7_innerToFour 213 = .ok (.aload_n 0, 1) := by decide +kernel
theorem dX7_innerToFour_214 : decode cX7_innerToFour 214 = .ok (.getfield 299, 3) := by decide +kernel
theorem dX7_innerToFour_217 : decode cX7_innerToFour 217 = .ok (.ifCond .ge 7, 3) := by decide +kernel
theorem dX7_innerToFour_220 : decode cX7_innerToFour 220 = .ok (.iconst 0, 1) := by decide +kernel
theorem dX7_innerToFour_221 : decode cX7_innerToFour 221 = .ok (.goto 17, 3) := by decide +kernel
theorem dX7_innerToFour_224 : decode cX7_innerToFour 224 = .ok (.aload_n 0, 1) := by decide +kernel
theorem dX7_innerToFour_225 : decode cX7_innerToFour 225 = .ok (.getfield 7, 3) := by decide +kernel
theorem dX7_innerToFour_228 : decode cX7_innerToFour 228 = .ok (.aload_n 0, 1) := by decide +kernel
theorem dX7_innerToFour_229 : decode cX7_innerToFour 229 = .ok (.getfield 299, 3) := by decide +kernel
theorem dX7_innerToFour_232 : decode cX7_innerToFour 232 = .ok (.bipush 6, 2) := by decide +kernel
theorem dX7_innerToFour_234 : decode cX7_innerToFour 234 = .ok (.iadd, 1) := by decide +kernel
theorem dX7_innerToFour_235 : decode cX7_innerToFour 235 = .ok (.invokestatic 115, 3) := by decide +kernel
theorem dX7_innerToFour_238 : decode cX7_innerToFour 238 = .ok (.istore 10, 2) := by decide +kernel
theorem dX7_innerToFour_240 : decode cX7_innerToFour 240 = .ok (.aload_n 0, 1) := by decide +kernel
theorem dX7_innerToFour_241 : decode cX7_innerToFour 241 = .ok (.iload 9, 2) := by decide +kernel
theorem dX7_innerToFour_243 : decode cX7_innerToFour 243 = .ok (.aload_n 0, 1) := by decide +kernel
theorem dX7_innerToFour_244 : decode cX7_innerToFour 244 = .ok (.iload_n 1, 1) := by decide +kernel
theorem dX7_innerToFour_245 : decode cX7_innerToFour 245 = .ok (.invokevirtual 334, 3) := by decide +kernel
theorem dX7_innerToFour_248 : decode cX7_innerToFour 248 = .ok (.bipush 20, 2) := by decide +kernel
theorem dX7_innerToFour_250 : decode cX7_innerToFour 250 = .ok (.iload 7, 2) := by decide +kernel
theorem dX7_innerToFour_252 : decode cX7_innerToFour 252 = .ok (.iadd, 1) := by decide +kernel
theorem dX7_innerToFour_253 : decode cX7_innerToFour 253 = .ok (.iload 10, 2) := by decide +kernel
theorem dX7_innerToFour_255 : decode cX7_innerToFour 255 = .ok (.aload_n 0, 1) := by decide +kernel
theorem dX7_innerToFour_256 : decode cX7_innerToFour 256 = .ok (.getfield 299, 3) := by decide +kernel
theorem dX7_innerToFour_259 : decode cX7_innerToFour 259 = .ok (.ifCond .ge 18, 3) := by decide +kernel
theorem dX7_innerToFour_262 : decode cX7_innerToFour 262 = .ok (.bipush 20, 2) := by decide +kernel
theorem dX7_innerToFour_264 : decode cX7_innerToFour 264 = .ok (.iload 7, 2) := by decide +kernel
theorem dX7_innerToFour_266 : decode cX7_innerToFour 266 = .ok (.iadd, 1) := by decide +kernel
theorem dX7_innerToFour_267 : decode cX7_innerToFour 267 = .ok (.sipush 1260, 3) := by decide +kernel
theorem dX7_innerToFour_270 : decode cX7_innerToFour 270 = .ok (.if_icmp .le 7, 3) := by decide +kernel
theorem dX7_innerToFour_273 : decode cX7_innerToFour 273 = .ok (.iconst 1, 1) := by decide +kernel
theorem dX7_innerToFour_274 : decode cX7_innerToFour 274 = .ok (.goto 4, 3) := by decide +kernel
theorem dX7_innerToFour_277 : decode cX7_innerToFour 277 = .ok (.iconst 0, 1) := by decide +kernel
theorem dX7_innerToFour_278 : decode cX7_innerToFour 278 = .ok (.aload_n 0, 1) := by decide +kernel
theorem dX7_innerToFour_279 : decode cX7_innerToFour 279 = .ok (.getfield 191, 3) := by decide +kernel
theorem dX7_innerToFour_282 : decode cX7_innerToFour 282 = .ok (.aload_n 0, 1) := by decide +kernel
theorem dX7_innerToFour_283 : decode cX7_innerToFour 283 = .ok (.getfield 194, 3) := by decide +kernel
theorem dX7_innerToFour_286 : decode cX7_innerToFour 286 = .ok (.aload_n 0, 1) := by decide +kernel
theorem dX7_innerToFour_287 : decode cX7_innerToFour 287 = .ok (.getfield 7, 3) := by decide +kernel
theorem dX7_innerToFour_290 : decode cX7_innerToFour 290 = .ok (.iload_n 1, 1) := by decide +kernel
theorem dX7_innerToFour_291 : decode cX7_innerToFour 291 = .ok (.bipush 7, 2) := by decide +kernel
theorem dX7_innerToFour_293 : decode cX7_innerToFour 293 = .ok (.iadd, 1) := by decide +kernel
theorem dX7_innerToFour_294 : decode cX7_innerToFour 294 = .ok (.invokestatic 111, 3) := by decide +kernel
theorem dX7_innerToFour_297 : decode cX7_innerToFour 297 = .ok (.invokevirtual 337, 3) := by decide +kernel
theorem dX7_innerToFour_300 : decode cX7_innerToFour 300 = .ok (.iconst 0, 1) := by decide +kernel
theorem dX7_innerToFour_301 : decode cX7_innerToFour 301 = .ok (.istore 11, 2) := by decide +kernel
theorem dX7_innerToFour_303 : decode cX7_innerToFour 303 = .ok (.iload 11, 2) := by decide +kernel
theorem dX7_innerToFour_305 : decode cX7_innerToFour 305 = .ok (.bipush 20, 2) := by decide +kernel
theorem dX7_innerToFour_307 : decode cX7_innerToFour 307 = .ok (.if_icmp .ge 29, 3) := by decide +kernel
theorem dX7_innerToFour_310 : decode cX7_innerToFour 310 = .ok (.aload_n 0, 1) := by decide +kernel
theorem dX7_innerToFour_311 : decode cX7_innerToFour 311 = .ok (.getfield 58, 3) := by decide +kernel
theorem dX7_innerToFour_314 : decode cX7_innerToFour 314 = .ok (.bipush 8, 2) := by decide +kernel
theorem dX7_innerToFour_316 : decode cX7_innerToFour 316 = .ok (.iload 11, 2) := by decide +kernel
theorem dX7_innerToFour_318 : decode cX7_innerToFour 318 = .ok (.iadd, 1) := by decide +kernel
theorem dX7_innerToFour_319 : decode cX7_innerToFour 319 = .ok (.aload_n 0, 1) := by decide +kernel
theorem dX7_innerToFour_320 : decode cX7_innerToFour 320 = .ok (.getfield 52, 3) := by decide +kernel
theorem dX7_innerToFour_323 : decode cX7_innerToFour 323 = .ok (.iload 9, 2) := by decide +kernel
theorem dX7_innerToFour_325 : decode cX7_innerToFour 325 = .ok (.iload 11, 2) := by decide +kernel
theorem dX7_innerToFour_327 : decode cX7_innerToFour 327 = .ok (.iadd, 1) := by decide +kernel
theorem dX7_innerToFour_328 : decode cX7_innerToFour 328 = .ok (.baload, 1) := by decide +kernel
theorem dX7_innerToFour_329 : decode cX7_innerToFour 329 = .ok (.bastore, 1) := by decide +kernel
theorem dX7_innerToFour_330 : decode cX7_innerToFour 330 = .ok (.iinc 11 1, 3) := by decide +kernel
theorem dX7_innerToFour_333 : decode cX7_innerToFour 333 = .ok (.goto (-30), 3) := by decide +kernel
theorem dX7_innerToFour_336 : decode cX7_innerToFour 336 = .ok (.aload_n 0, 1) := by decide +kernel
theorem dX7_innerToFour_337 : decode cX7_innerToFour 337 = .ok (.iload 8, 2) := by decide +kernel
theorem dX7_innerToFour_339 : decode cX7_innerToFour 339 = .ok (.putfield 128, 3) := by decide +kernel
theorem dX7_innerToFour_342 : decode cX7_innerToFour 342 = .ok (.iconst 0, 1) := by decide +kernel
theorem dX7_innerToFour_343 : decode cX7_innerToFour 343 = .ok (.istore 11, 2) := by decide +kernel
theorem dX7_innerToFour_345 : decode cX7_innerToFour 345 = .ok (.iload 11, 2) := by decide +kernel
theorem dX7_innerToFour_347 : decode cX7_innerToFour 347 = .ok (.iload 5, 2) := by decide +kernel
theorem dX7_innerToFour_349 : decode cX7_innerToFour 349 = .ok (.if_icmp .ge 31, 3) := by decide +kernel
theorem dX7_innerToFour_352 : decode cX7_innerToFour 352 = .ok (.aload_n 0, 1) := by decide +kernel
theorem dX7_innerToFour_353 : decode cX7_innerToFour 353 = .ok (.getfield 58, 3) := by decide +kernel
theorem dX7_innerToFour_356 : decode cX7_innerToFour 356 = .ok (.bipush 28, 2) := by decide +kernel
theorem dX7_innerToFour_358 : decode cX7_innerToFour 358 = .ok (.iload 11, 2) := by decide +kernel
theorem dX7_innerToFour_360 : decode cX7_innerToFour 360 = .ok (.iadd, 1) := by decide +kernel
theorem dX7_innerToFour_361 : decode cX7_innerToFour 361 = .ok (.aload_n 0, 1) := by decide +kernel
theorem dX7_innerToFour_362 : decode cX7_innerToFour 362 = .ok (.getfield 7, 3) := by decide +kernel
theorem dX7_innerToFour_365 : decode cX7_innerToFour 365 = .ok (.aload_n 0, 1) := by decide +kernel
theorem dX7_innerToFour_366 : decode cX7_innerToFour 366 = .ok (.getfield 306, 3) := by decide +kernel
theorem dX7_innerToFour_369 : decode cX7_innerToFour 369 = .ok (.iload 11, 2) := by decide +kernel
theorem dX7_innerToFour_371 : decode cX7_innerToFour 371 = .ok (.iadd, 1) := by decide +kernel
theorem dX7_innerToFour_372 : decode cX7_innerToFour 372 = .ok (.baload, 1) := by decide +kernel
theorem dX7_innerToFour_373 : decode cX7_innerToFour 373 = .ok (.bastore, 1) := by decide +kernel
theorem dX7_innerToFour_374 : decode cX7_innerToFour 374 = .ok (.iinc 11 1, 3) := by decide +kernel
theorem dX7_innerToFour_377 : decode cX7_innerToFour 377 = .ok (.goto (-32), 3) := by decide +kernel
theorem dX7_innerToFour_380 : decode cX7_innerToFour 380 = .ok (.aload_n 0, 1) := by decide +kernel
theorem dX7_innerToFour_381 : decode cX7_innerToFour 381 = .ok (.bipush 28, 2) := by decide +kernel
theorem dX7_innerToFour_383 : decode cX7_innerToFour 383 = .ok (.iload 5, 2) := by decide +kernel
theorem dX7_innerToFour_385 : decode cX7_innerToFour 385 = .ok (.iadd, 1) := by decide +kernel
theorem dX7_innerToFour_386 : decode cX7_innerToFour 386 = .ok (.putfield 134, 3) := by decide +kernel
theorem dX7_innerToFour_389 : decode cX7_innerToFour 389 = .ok (.aload_n 0, 1) := by decide +kernel
theorem dX7_innerToFour_390 : decode cX7_innerToFour 390 = .ok (.bipush 28, 2) := by decide +kernel
theorem dX7_innerToFour_392 : decode cX7_innerToFour 392 = .ok (.iload 5, 2) := by decide +kernel
theorem dX7_innerToFour_394 : decode cX7_innerToFour 394 = .ok (.iload 7, 2) := by decide +kernel
theorem dX7_innerToFour_396 : decode cX7_innerToFour 396 = .ok (.aload_n 0, 1) := by decide +kernel
theorem dX7_innerToFour_397 : decode cX7_innerToFour 397 = .ok (.getfield 191, 3) := by decide +kernel
theorem dX7_innerToFour_400 : decode cX7_innerToFour 400 = .ok (.iconst 0, 1) := by decide +kernel
theorem dX7_innerToFour_401 : decode cX7_innerToFour 401 = .ok (.invokevirtual 295, 3) := by decide +kernel
theorem dX7_innerToFour_404 : decode cX7_innerToFour 404 = .ok (.iconst 1, 1) := by decide +kernel
theorem dX7_innerToFour_405 : decode cX7_innerToFour 405 = .ok (.ireturn, 1) := by decide +kernel
theorem dX7_isPacket_0 : decode cX7_isPacket 0 = .ok (.iload_n 1, 1) := by decide +kernel
theorem dX7_isPacket_1 : decode cX7_isPacket 1 = .ok (.ifCond .lt 15, 3) := by decide +kernel
theorem dX7_isPacket_4 : decode cX7_isPacket 4 = .ok (.iload_n 1, 1) := by decide +kernel
theorem dX7_isPacket_5 : decode cX7_isPacket 5 = .ok (.aload_n 0, 1) := by decide +kernel
theorem dX7_isPacket_6 : decode cX7_isPacket 6 = .ok (.getfield 131, 3) := by decide +kernel
theorem dX7_isPacket_9 : decode cX7_isPacket 9 = .ok (.if_icmp .ge 7, 3) := by decide +kernel
theorem dX7_isPacket_12 : decode cX7_isPacket 12 = .ok (.iconst 1, 1) := by decide +kernel
theorem dX7_isPacket_13 : decode cX7_isPacket 13 = .ok (.goto 4, 3) := by decide +kernel
theorem dX7_isPacket_16 : decode cX7_isPacket 16 = .ok (.iconst 0, 1) := by decide +kernel
theorem dX7_isPacket_17 : decode cX7_isPacket 17 = .ok (.ireturn, 1) := by decide +kernel
theorem dX7_parts_0 : decode cX7_parts 0 = .ok (.aload_n 0, 1) := by decide +kernel
theorem dX7_parts_1 : decode cX7_parts 1 = .ok (.iconst 0, 1) := by decide +kernel
theorem dX7_parts_2 : decode cX7_parts 2 = .ok (.putfield 61, 3) := by decide +kernel
theorem dX7_parts_5 : decode cX7_parts 5 = .ok (.aload_n 0, 1) := by decide +kernel
theorem dX7_parts_6 : decode cX7_parts 6 = .ok (.getfield 131, 3) := by decide +kernel
theorem dX7_parts_9 : decode cX7_parts 9 = .ok (.ireturn, 1) := by decide +kernel
theorem dX7_size_0 : decode cX7_size 0 = .ok (.aload_n 0, 1) := by decide +kernel
theorem dX7_size_1 : decode cX7_size 1 = .ok (.iconst 0, 1) := by decide +kernel
theorem dX7_size_2 : decode cX7_size 2 = .ok (.putfield 61, 3) := by decide +kernel
theorem dX7_size_5 : decode cX7_size 5 = .ok (.aload_n 0, 1) := by decide +kernel
theorem dX7_size_6 : decode cX7_size 6 = .ok (.iload_n 1, 1) := by decide +kernel
theorem dX7_size_7 : decode cX7_size 7 = .ok (.invokevirtual 364, 3) := by decide +kernel
theorem dX7_size_10 : decode cX7_size 10 = .ok (.ifCond .eq 21, 3) := by decide +kernel
theorem dX7_size_13 : decode cX7_size 13 = .ok (.aload_n 0, 1) := by decide +kernel
theorem dX7_size_14 : decode cX7_size 14 = .ok (.getfield 55, 3) := by decide +kernel
theorem dX7_size_17 : decode cX7_size 17 = .ok (.iload_n 1, 1) := by decide +kernel
theorem dX7_size_18 : decode cX7_size 18 = .ok (.iconst 1, 1) := by decide +kernel
theorem dX7_size_19 : decode cX7_size 19 = .ok (.iadd, 1) := by decide +kernel
theorem dX7_size_20 : decode cX7_size 20 = .ok (.iaload, 1) := by decide +kernel
theorem dX7_size_21 : decode cX7_size 21 = .ok (.aload_n 0, 1) := by decide +kernel
theorem dX7_size_22 : decode cX7_size 22 = .ok (.getfield 55, 3) := by decide +kernel
theorem dX7_size_25 : decode cX7_size 25 = .ok (.iload_n 1, 1) := by decide +kernel
theorem dX7_size_26 : decode cX7_size 26 = .ok (.iaload, 1) := by decide +kernel
theorem dX7_size_27 : decode cX7_size 27 = .ok (.isub, 1) := by decide +kernel
theorem dX7_size_28 : decode cX7_size 28 = .ok (.goto 4, 3) := by decide +kernel
theorem dX7_size_31 : decode cX7_size 31 = .ok (.iconst (-1), 1) := by decide +kernel
theorem dX7_size_32 : decode cX7_size 32 = .ok (.ireturn, 1) := by decide +kernel
theorem dX7_octet_0 : decode cX7_octet 0 = .ok (.aload_n 0, 1) := by decide +kernel
theorem dX7_octet_1 : decode cX7_octet 1 = .ok (.aload_n 0, 1) := by decide +kernel
theorem dX7_octet_2 : decode cX7_octet 2 = .ok (.iload_n 1, 1) := by decide +kernel
theorem dX7_octet_3 : decode cX7_octet 3 = .ok (.invokevirtual 364, 3) := by decide +kernel
theorem dX7_octet_6 : decode cX7_octet 6 = .ok (.ifCond .eq 26, 3) := by decide +kernel
theorem dX7_octet_9 : decode cX7_octet 9 = .ok (.iload_n 2, 1) := by decide +kernel
theorem dX7_octet_10 : decode cX7_octet 10 = .ok (.ifCond .lt 22, 3) := by decide +kernel
theorem dX7_octet_13 : decode cX7_octet 13 = .ok (.iload_n 2, 1) := by decide +kernel
theorem dX7_octet_14 : decode cX7_octet 14 = .ok (.aload_n 0, 1) := by decide +kernel
theorem dX7_octet_15 : decode cX7_octet 15 = .ok (.getfield 55, 3) := by decide +kernel
theorem dX7_octet_18 : decode cX7_octet 18 = .ok (.iload_n 1, 1) := by decide +kernel
theorem dX7_octet_19 : decode cX7_octet 19 = .ok (.iconst 1, 1) := by decide +kernel
theorem dX7_octet_20 : decode cX7_octet 20 = .ok (.iadd, 1) := by decide +kernel
theorem dX7_octet_21 : decode cX7_octet 21 = .ok (.iaload, 1) := by decide +kernel
theorem dX7_octet_22 : decode cX7_octet 22 = .ok (.aload_n 0, 1) := by decide +kernel
theorem dX7_octet_23 : decode cX7_octet 23 = .ok (.getfield 55, 3) := by decide +kernel
theorem dX7_octet_26 : decode cX7_octet 26 = .ok (.iload_n 1, 1) := by decide +kernel
theorem dX7_octet_27 : decode cX7_octet 27 = .ok (.iaload, 1) := by decide +kernel
theorem dX7_octet_28 : decode cX7_octet 28 = .ok (.isub, 1) := by decide +kernel
theorem dX7_octet_29 : decode cX7_octet 29 = .ok (.if_icmp .lt 7, 3) := by decide +kernel
theorem dX7_octet_32 : decode cX7_octet 32 = .ok (.iconst 1, 1) := by decide +kernel
theorem dX7_octet_33 : decode cX7_octet 33 = .ok (.goto 4, 3) := by decide +kernel
theorem dX7_octet_36 : decode cX7_octet 36 = .ok (.iconst 0, 1) := by decide +kernel
theorem dX7_octet_37 : decode cX7_octet 37 = .ok (.putfield 61, 3) := by decide +kernel
theorem dX7_octet_40 : decode cX7_octet 40 = .ok (.aload_n 0, 1) := by decide +kernel
theorem dX7_octet_41 : decode cX7_octet 41 = .ok (.getfield 61, 3) := by decide +kernel
theorem dX7_octet_44 : decode cX7_octet 44 = .ok (.ifCond .le 7, 3) := by decide +kernel
theorem dX7_octet_47 : decode cX7_octet 47 = .ok (.iconst 0, 1) := by decide +kernel
theorem dX7_octet_48 : decode cX7_octet 48 = .ok (.goto 18, 3) := by decide +kernel
theorem dX7_octet_51 : decode cX7_octet 51 = .ok (.aload_n 0, 1) := by decide +kernel
theorem dX7_octet_52 : decode cX7_octet 52 = .ok (.getfield 52, 3) := by decide +kernel
theorem dX7_octet_55 : decode cX7_octet 55 = .ok (.aload_n 0, 1) := by decide +kernel
theorem dX7_octet_56 : decode cX7_octet 56 = .ok (.getfield 55, 3) := by decide +kernel
theorem dX7_octet_59 : decode cX7_octet 59 = .ok (.iload_n 1, 1) := by decide +kernel
theorem dX7_octet_60 : decode cX7_octet 60 = .ok (.iaload, 1) := by decide +kernel
theorem dX7_octet_61 : decode cX7_octet 61 = .ok (.iload_n 2, 1) := by decide +kernel
theorem dX7_octet_62 : decode cX7_octet 62 = .ok (.iadd, 1) := by decide +kernel
theorem dX7_octet_63 : decode cX7_octet 63 = .ok (.invokestatic 111, 3) := by decide +kernel
theorem dX7_octet_66 : decode cX7_octet 66 = .ok (.ireturn, 1) := by decide +kernel
theorem dX7_check_0 : decode cX7_check 0 = .ok (.aload_n 0, 1) := by decide +kernel
theorem dX7_check_1 : decode cX7_check 1 = .ok (.aload_n 0, 1) := by decide +kernel
theorem dX7_check_2 : decode cX7_check 2 = .ok (.iload_n 1, 1) := by decide +kernel
theorem dX7_check_3 : decode cX7_check 3 = .ok (.invokevirtual 364, 3) := by decide +kernel
theorem dX7_check_6 : decode cX7_check 6 = .ok (.ifCond .eq 31, 3) := by decide +kernel
theorem dX7_check_9 : decode cX7_check 9 = .ok (.iload_n 2, 1) := by decide +kernel
theorem dX7_check_10 : decode cX7_check 10 = .ok (.ifCond .lt 27, 3) := by decide +kernel
theorem dX7_check_13 : decode cX7_check 13 = .ok (.iload_n 2, 1) := by decide +kernel
theorem dX7_check_14 : decode cX7_check 14 = .ok (.iload_n 3, 1) := by decide +kernel
theorem dX7_check_15 : decode cX7_check 15 = .ok (.if_icmp .gt 22, 3) := by decide +kernel
theorem dX7_check_18 : decode cX7_check 18 = .ok (.iload_n 3, 1) := by decide +kernel
theorem dX7_check_19 : decode cX7_check 19 = .ok (.aload_n 0, 1) := by decide +kernel
theorem dX7_check_20 : decode cX7_check 20 = .ok (.getfield 55, 3) := by decide +kernel
theorem dX7_check_23 : decode cX7_check 23 = .ok (.iload_n 1, 1) := by decide +kernel
theorem dX7_check_24 : decode cX7_check 24 = .ok (.iconst 1, 1) := by decide +kernel
theorem dX7_check_25 : decode cX7_check 25 = .ok (.iadd, 1) := by decide +kernel
theorem dX7_check_26 : decode cX7_check 26 = .ok (.iaload, 1) := by decide +kernel
theorem dX7_check_27 : decode cX7_check 27 = .ok (.aload_n 0, 1) := by decide +kernel
theorem dX7_check_28 : decode cX7_check 28 = .ok (.getfield 55, 3) := by decide +kernel
theorem dX7_check_31 : decode cX7_check 31 = .ok (.iload_n 1, 1) := by decide +kernel
theorem dX7_check_32 : decode cX7_check 32 = .ok (.iaload, 1) := by decide +kernel
theorem dX7_check_33 : decode cX7_check 33 = .ok (.isub, 1) := by decide +kernel
theorem dX7_check_34 : decode cX7_check 34 = .ok (.if_icmp .le 7, 3) := by decide +kernel
theorem dX7_check_37 : decode cX7_check 37 = .ok (.iconst 1, 1) := by decide +kernel
theorem dX7_check_38 : decode cX7_check 38 = .ok (.goto 4, 3) := by decide +kernel
theorem dX7_check_41 : decode cX7_check 41 = .ok (.iconst 0, 1) := by decide +kernel
theorem dX7_check_42 : decode cX7_check 42 = .ok (.putfield 61, 3) := by decide +kernel
theorem dX7_check_45 : decode cX7_check 45 = .ok (.aload_n 0, 1) := by decide +kernel
theorem dX7_check_46 : decode cX7_check 46 = .ok (.getfield 61, 3) := by decide +kernel
theorem dX7_check_49 : decode cX7_check 49 = .ok (.ifCond .le 5, 3) := by decide +kernel
theorem dX7_check_52 : decode cX7_check 52 = .ok (.iconst 0, 1) := by decide +kernel
theorem dX7_check_53 : decode cX7_check 53 = .ok (.ireturn, 1) := by decide +kernel
theorem dX7_check_54 : decode cX7_check 54 = .ok (.aload_n 0, 1) := by decide +kernel
theorem dX7_check_55 : decode cX7_check 55 = .ok (.lconst 0, 1) := by decide +kernel
theorem dX7_check_56 : decode cX7_check 56 = .ok (.putfield 102, 3) := by decide +kernel
theorem dX7_check_59 : decode cX7_check 59 = .ok (.aload_n 0, 1) := by decide +kernel
theorem dX7_check_60 : decode cX7_check 60 = .ok (.aload_n 0, 1) := by decide +kernel
theorem dX7_check_61 : decode cX7_check 61 = .ok (.getfield 52, 3) := by decide +kernel
theorem dX7_check_64 : decode cX7_check 64 = .ok (.aload_n 0, 1) := by decide +kernel
theorem dX7_check_65 : decode cX7_check 65 = .ok (.getfield 55, 3) := by decide +kernel
theorem dX7_check_68 : decode cX7_check 68 = .ok (.iload_n 1, 1) := by decide +kernel
theorem dX7_check_69 : decode cX7_check 69 = .ok (.iaload, 1) := by decide +kernel
theorem dX7_check_70 : decode cX7_check 70 = .ok (.iload_n 2, 1) := by decide +kernel
theorem dX7_check_71 : decode cX7_check 71 = .ok (.iadd, 1) := by decide +kernel
theorem dX7_check_72 : decode cX7_check 72 = .ok (.aload_n 0, 1) := by decide +kernel
theorem dX7_check_73 : decode cX7_check 73 = .ok (.getfield 55, 3) := by decide +kernel
theorem dX7_check_76 : decode cX7_check 76 = .ok (.iload_n 1, 1) := by decide +kernel
theorem dX7_check_77 : decode cX7_check 77 = .ok (.iaload, 1) := by decide +kernel
theorem dX7_check_78 : decode cX7_check 78 = .ok (.iload_n 3, 1) := by decide +kernel
theorem dX7_check_79 : decode cX7_check 79 = .ok (.iadd, 1) := by decide +kernel
theorem dX7_check_80 : decode cX7_check 80 = .ok (.invokevirtual 206, 3) := by decide +kernel
theorem dX7_check_83 : decode cX7_check 83 = .ok (.aload_n 0, 1) := by decide +kernel
theorem dX7_check_84 : decode cX7_check 84 = .ok (.invokevirtual 177, 3) := by decide +kernel
theorem dX7_check_87 : decode cX7_check 87 = .ok (.ireturn, 1) := by decide +kernel
theorem dX7_count_0 : decode cX7_count 0 = .ok (.aload_n 0, 1) := by decide +kernel
theorem dX7_count_1 : decode cX7_count 1 = .ok (.iconst 0, 1) := by decide +kernel
theorem dX7_count_2 : decode cX7_count 2 = .ok (.putfield 61, 3) := by decide +kernel
theorem dX7_count_5 : decode cX7_count 5 = .ok (.iload_n 1, 1) := by decide +kernel
theorem dX7_count_6 : decode cX7_count 6 = .ok (.ifCond .lt 16, 3) := by decide +kernel
theorem dX7_count_9 : decode cX7_count 9 = .ok (.iload_n 1, 1) := by decide +kernel
theorem dX7_count_10 : decode cX7_count 10 = .ok (.bipush 10, 2) := by decide +kernel
theorem dX7_count_12 : decode cX7_count 12 = .ok (.if_icmp .gt 10, 3) := by decide +kernel
theorem dX7_count_15 : decode cX7_count 15 = .ok (.aload_n 0, 1) := by decide +kernel
theorem dX7_count_16 : decode cX7_count 16 = .ok (.getfield 48, 3) := by decide +kernel
theorem dX7_count_19 : decode cX7_count 19 = .ok (.iload_n 1, 1) := by decide +kernel
theorem dX7_count_20 : decode cX7_count 20 = .ok (.iaload, 1) := by decide +kernel
theorem dX7_count_21 : decode cX7_count 21 = .ok (.ireturn, 1) := by decide +kernel
theorem dX7_count_22 : decode cX7_count 22 = .ok (.iload_n 1, 1) := by decide +kernel
theorem dX7_count_23 : decode cX7_count 23 = .ok (.tableswitch 58 11 15 #[33, 38, 43, 48, 53], 33) := by decide +kernel
theorem dX7_count_56 : decode cX7_count 56 = .ok (.aload_n 0, 1) := by decide +kernel
theorem dX7_count_57 : decode cX7_count 57 = .ok (.getfield 64, 3) := by decide +kernel
theorem dX7_count_60 : decode cX7_count 60 = .ok (.ireturn, 1) := by decide +kernel
theorem dX7_count_61 : decode cX7_count 61 = .ok (.aload_n 0, 1) := by decide +kernel
theorem dX7_count_62 : decode cX7_count 62 = .ok (.getfield 331, 3) := by decide +kernel
theorem dX7_count_65 : decode cX7_count 65 = .ok (.ireturn, 1) := by decide +kernel
theorem dX7_count_66 : decode cX7_count 66 = .ok (.aload_n 0, 1) := by decide +kernel
theorem dX7_count_67 : decode cX7_count 67 = .ok (.getfield 35, 3) := by decide +kernel
theorem dX7_count_70 : decode cX7_count 70 = .ok (.ireturn, 1) := by decide +kernel
theorem dX7_count_71 : decode cX7_count 71 = .ok (.aload_n 0, 1) := by decide +kernel
theorem dX7_count_72 : decode cX7_count 72 = .ok (.getfield 38, 3) := by decide +kernel
theorem dX7_count_75 : decode cX7_count 75 = .ok (.ireturn, 1) := by decide +kernel
theorem dX7_count_76 : decode cX7_count 76 = .ok (.aload_n 0, 1) := by decide +kernel
theorem dX7_count_77 : decode cX7_count 77 = .ok (.getfield 19, 3) := by decide +kernel
theorem dX7_count_80 : decode cX7_count 80 = .ok (.ireturn, 1) := by decide +kernel
theorem dX7_count_81 : decode cX7_count 81 = .ok (.iconst (-1), 1) := by decide +kernel
theorem dX7_count_82 : decode cX7_count 82 = .ok (.ireturn, 1) := by decide +kernel
theorem dJ9_max_7cf53_0 : decode cJ9_max_7cf53 0 = .ok (.iload_n 0, 1) := by decide +kernel
theorem dJ9_max_7cf53_1 : decode cJ9_max_7cf53 1 = .ok (.iload_n 1, 1) := by decide +kernel
theorem dJ9_max_7cf53_2 : decode cJ9_max_7cf53 2 = .ok (.if_icmp .lt 7, 3) := by decide +kernel
theorem dJ9_max_7cf53_5 : decode cJ9_max_7cf53 5 = .ok (.iload_n 0, 1) := by decide +kernel
theorem dJ9_max_7cf53_6 : decode cJ9_max_7cf53 6 = .ok (.goto 4, 3) := by decide +kernel
theorem dJ9_max_7cf53_9 : decode cJ9_max_7cf53 9 = .ok (.iload_n 1, 1) := by decide +kernel
theorem dJ9_max_7cf53_10 : decode cJ9_max_7cf53 10 = .ok (.ireturn, 1) := by decide +kernel
theorem dJ9_max_f86c9_0 : decode cJ9_max_f86c9 0 = .ok (.lload_n 0, 1) := by decide +kernel
theorem dJ9_max_f86c9_1 : decode cJ9_max_f86c9 1 = .ok (.lload_n 2, 1) := by decide +kernel
theorem dJ9_max_f86c9_2 : decode cJ9_max_f86c9 2 = .ok (.lcmp, 1) := by decide +kernel
theorem dJ9_max_f86c9_3 : decode cJ9_max_f86c9 3 = .ok (.ifCond .lt 7, 3) := by decide +kernel
theorem dJ9_max_f86c9_6 : decode cJ9_max_f86c9 6 = .ok (.lload_n 0, 1) := by decide +kernel
theorem dJ9_max_f86c9_7 : decode cJ9_max_f86c9 7 = .ok (.goto 4, 3) := by decide +kernel
theorem dJ9_max_f86c9_10 : decode cJ9_max_f86c9 10 = .ok (.lload_n 2, 1) := by decide +kernel
theorem dJ9_max_f86c9_11 : decode cJ9_max_f86c9 11 = .ok (.lreturn, 1) := by decide +kernel
theorem dJ9_min_7cf53_0 : decode cJ9_min_7cf53 0 = .ok (.iload_n 0, 1) := by decide +kernel
theorem dJ9_min_7cf53_1 : decode cJ9_min_7cf53 1 = .ok (.iload_n 1, 1) := by decide +kernel
theorem dJ9_min_7cf53_2 : decode cJ9_min_7cf53 2 = .ok (.if_icmp .gt 7, 3) := by decide +kernel
theorem dJ9_min_7cf53_5 : decode cJ9_min_7cf53 5 = .ok (.iload_n 0, 1) := by decide +kernel
theorem dJ9_min_7cf53_6 : decode cJ9_min_7cf53 6 = .ok (.goto 4, 3) := by decide +kernel
theorem dJ9_min_7cf53_9 : decode cJ9_min_7cf53 9 = .ok (.iload_n 1, 1) := by decide +kernel
theorem dJ9_min_7cf53_10 : decode cJ9_min_7cf53 10 = .ok (.ireturn, 1) := by decide +kernel
theorem dJ9_min_f86c9_0 : decode cJ9_min_f86c9 0 = .ok (.lload_n 0, 1) := by decide +kernel
theorem dJ9_min_f86c9_1 : decode cJ9_min_f86c9 1 = .ok (.lload_n 2, 1) := by decide +kernel
theorem dJ9_min_f86c9_2 : decode cJ9_min_f86c9 2 = .ok (.lcmp, 1) := by decide +kernel
theorem dJ9_min_f86c9_3 : decode cJ9_min_f86c9 3 = .ok (.ifCond .gt 7, 3) := by decide +kernel
theorem dJ9_min_f86c9_6 : decode cJ9_min_f86c9 6 = .ok (.lload_n 0, 1) := by decide +kernel
theorem dJ9_min_f86c9_7 : decode cJ9_min_f86c9 7 = .ok (.goto 4, 3) := by decide +kernel
theorem dJ9_min_f86c9_10 : decode cJ9_min_f86c9 10 = .ok (.lload_n 2, 1) := by decide +kernel
theorem dJ9_min_f86c9_11 : decode cJ9_min_f86c9 11 = .ok (.lreturn, 1) := by decide +kernel
