theorem dX6_isErrorSix_11 : decode cX6_isErrorSix 11 = .ok (.goto 4, 3) := by decide +kernel
theorem dX6_isErrorSix_14 : decode cX6_isErrorSix 14 = .ok (.iconst 0, 1) := by decide +kernel
theorem dX6_isErrorSix_15 : decode cX6_isErrorSix 15 = .ok (.ireturn, 1) := by decide +kernel
theorem dX6_bodyFromSix_0 : decode cX6_bodyFromSix 0 = .ok (.aload_n 0, 1) := by decide +kernel
theorem dX6_bodyFromSix_1 : decode cX6_bodyFromSix 1 = .ok (.getfield 18, 3) := by decide +kernel
theorem dX6_bodyFromSix_4 : decode cX6_bodyFromSix 4 = .ok (.aload_n 0, 1) := by decide +kernel
theorem dX6_bodyFromSix_5 : decode cX6_bodyFromSix 5 = .ok (.getfield 14, 3) := by decide +kernel
theorem dX6_bodyFromSix_8 : decode cX6_bodyFromSix 8 = .ok (.aload_n 1, 1) := by decide +kernel
theorem dX6_bodyFromSix_9 : decode cX6_bodyFromSix 9 = .ok (.getfield 408, 3) := by decide +kernel
theorem dX6_bodyFromSix_12 : decode cX6_bodyFromSix 12 = .ok (.iconst 0, 1) := by decide +kernel
theorem dX6_bodyFromSix_13 : decode cX6_bodyFromSix 13 = .ok (.aload_n 1, 1) := by decide +kernel
theorem dX6_bodyFromSix_14 : decode cX6_bodyFromSix 14 = .ok (.getfield 433, 3) := by decide +kernel
theorem dX6_bodyFromSix_17 : decode cX6_bodyFromSix 17 = .ok (.invokevirtual 276, 3) := by decide +kernel
theorem dX6_bodyFromSix_20 : decode cX6_bodyFromSix 20 = .ok (.aload_n 0, 1) := by decide +kernel
theorem dX6_bodyFromSix_21 : decode cX6_bodyFromSix 21 = .ok (.getfield 18, 3) := by decide +kernel
theorem dX6_bodyFromSix_24 : decode cX6_bodyFromSix 24 = .ok (.aload_n 1, 1) := by decide +kernel
theorem dX6_bodyFromSix_25 : decode cX6_bodyFromSix 25 = .ok (.getfield 433, 3) := by decide +kernel
theorem dX6_bodyFromSix_28 : decode cX6_bodyFromSix 28 = .ok (.putfield 89, 3) := by decide +kernel
theorem dX6_bodyFromSix_31 : decode cX6_bodyFromSix 31 = .ok (.aload_n 0, 1) := by decide +kernel
theorem dX6_bodyFromSix_32 : decode cX6_bodyFromSix 32 = .ok (.aload_n 1, 1) := by decide +kernel
theorem dX6_bodyFromSix_33 : decode cX6_bodyFromSix 33 = .ok (.iconst 0, 1) := by decide +kernel
theorem dX6_bodyFromSix_34 : decode cX6_bodyFromSix 34 = .ok (.invokevirtual 434, 3) := by decide +kernel
theorem dX6_bodyFromSix_37 : decode cX6_bodyFromSix 37 = .ok (.return_, 1) := by decide +kernel
theorem dX6_fixToFour_0 : decode cX6_fixToFour 0 = .ok (.aload_n 1, 1) := by decide +kernel
theorem dX6_fixToFour_1 : decode cX6_fixToFour 1 = .ok (.getfield 407, 3) := by decide +kernel
theorem dX6_fixToFour_4 : decode cX6_fixToFour 4 = .ok (.bipush 58, 2) := by decide +kernel
theorem dX6_fixToFour_6 : decode cX6_fixToFour 6 = .ok (.if_icmp .ne 109, 3) := by decide +kernel
theorem dX6_fixToFour_9 : decode cX6_fixToFour 9 = .ok (.aload_n 0, 1) := by decide +kernel
theorem dX6_fixToFour_10 : decode cX6_fixToFour 10 = .ok (.getfield 18, 3) := by decide +kernel
theorem dX6_fixToFour_13 : decode cX6_fixToFour 13 = .ok (.iload_n 2, 1) := by decide +kernel
theorem dX6_fixToFour_14 : decode cX6_fixToFour 14 = .ok (.invokevirtual 272, 3) := by decide +kernel
theorem dX6_fixToFour_17 : decode cX6_fixToFour 17 = .ok (.istore_n 3, 1) := by decide +kernel
theorem dX6_fixToFour_18 : decode cX6_fixToFour 18 = .ok (.iload_n 3, 1) := by decide +kernel
theorem dX6_fixToFour_19 : decode cX6_fixToFour 19 = .ok (.bipush 8, 2) := by decide +kernel
theorem dX6_fixToFour_21 : decode cX6_fixToFour 21 = .ok (.ishr, 1) := by decide +kernel
theorem dX6_fixToFour_22 : decode cX6_fixToFour 22 = .ok (.sipush 128, 3) := by decide +kernel
theorem dX6_fixToFour_25 : decode cX6_fixToFour 25 = .ok (.if_icmp .ne 8, 3) := by decide +kernel
theorem dX6_fixToFour_28 : decode cX6_fixToFour 28 = .ok (.bipush 8, 2) := by decide +kernel
theorem dX6_fixToFour_30 : decode cX6_fixToFour 30 = .ok (.goto 4, 3) := by decide +kernel
theorem dX6_fixToFour_33 : decode cX6_fixToFour 33 = .ok (.iconst 0, 1) := by decide +kernel
theorem dX6_fixToFour_34 : decode cX6_fixToFour 34 = .ok (.istore 4, 2) := by decide +kernel
theorem dX6_fixToFour_36 : decode cX6_fixToFour 36 = .ok (.iload 4, 2) := by decide +kernel
theorem dX6_fixToFour_38 : decode cX6_fixToFour 38 = .ok (.bipush 8, 2) := by decide +kernel
theorem dX6_fixToFour_40 : decode cX6_fixToFour 40 = .ok (.ishl, 1) := by decide +kernel
theorem dX6_fixToFour_41 : decode cX6_fixToFour 41 = .ok (.iload_n 3, 1) := by decide +kernel
theorem dX6_fixToFour_42 : decode cX6_fixToFour 42 = .ok (.sipush 255, 3) := by decide +kernel
theorem dX6_fixToFour_45 : decode cX6_fixToFour 45 = .ok (.iand, 1) := by decide +kernel
theorem dX6_fixToFour_46 : decode cX6_fixToFour 46 = .ok (.ior, 1) := by decide +kernel
theorem dX6_fixToFour_47 : decode cX6_fixToFour 47 = .ok (.istore 5, 2) := by decide +kernel
theorem dX6_fixToFour_49 : decode cX6_fixToFour 49 = .ok (.aload_n 0, 1) := by decide +kernel
theorem dX6_fixToFour_50 : decode cX6_fixToFour 50 = .ok (.getfield 18, 3) := by decide +kernel
theorem dX6_fixToFour_53 : decode cX6_fixToFour 53 = .ok (.iload_n 2, 1) := by decide +kernel
theorem dX6_fixToFour_54 : decode cX6_fixToFour 54 = .ok (.iconst 2, 1) := by decide +kernel
theorem dX6_fixToFour_55 : decode cX6_fixToFour 55 = .ok (.iload 5, 2) := by decide +kernel
theorem dX6_fixToFour_57 : decode cX6_fixToFour 57 = .ok (.i2l, 1) := by decide +kernel
theorem dX6_fixToFour_58 : decode cX6_fixToFour 58 = .ok (.invokevirtual 99, 3) := by decide +kernel
theorem dX6_fixToFour_61 : decode cX6_fixToFour 61 = .ok (.iload_n 3, 1) := by decide +kernel
theorem dX6_fixToFour_62 : decode cX6_fixToFour 62 = .ok (.i2l, 1) := by decide +kernel
theorem dX6_fixToFour_63 : decode cX6_fixToFour 63 = .ok (.aload_n 1, 1) := by decide +kernel
theorem dX6_fixToFour_64 : decode cX6_fixToFour 64 = .ok (.getfield 438, 3) := by decide +kernel
theorem dX6_fixToFour_67 : decode cX6_fixToFour 67 = .ok (.ladd, 1) := by decide +kernel
theorem dX6_fixToFour_68 : decode cX6_fixToFour 68 = .ok (.aload_n 1, 1) := by decide +kernel
theorem dX6_fixToFour_69 : decode cX6_fixToFour 69 = .ok (.getfield 433, 3) := by decide +kernel
theorem dX6_fixToFour_72 : decode cX6_fixToFour 72 = .ok (.i2l, 1) := by decide +kernel
theorem dX6_fixToFour_73 : decode cX6_fixToFour 73 = .ok (.ladd, 1) := by decide +kernel
theorem dX6_fixToFour_74 : decode cX6_fixToFour 74 = .ok (.ldc2_w 289, 3) := by decide +kernel
theorem dX6_fixToFour_77 : decode cX6_fixToFour 77 = .ok (.ladd, 1) := by decide +kernel
theorem dX6_fixToFour_78 : decode cX6_fixToFour 78 = .ok (.lstore 6, 2) := by decide +kernel
theorem dX6_fixToFour_80 : decode cX6_fixToFour 80 = .ok (.aload_n 0, 1) := by decide +kernel
theorem dX6_fixToFour_81 : decode cX6_fixToFour 81 = .ok (.getfield 18, 3) := by decide +kernel
theorem dX6_fixToFour_84 : decode cX6_fixToFour 84 = .ok (.iload_n 2, 1) := by decide +kernel
theorem dX6_fixToFour_85 : decode cX6_fixToFour 85 = .ok (.iconst 2, 1) := by decide +kernel
theorem dX6_fixToFour_86 : decode cX6_fixToFour 86 = .ok (.iadd, 1) := by decide +kernel
theorem dX6_fixToFour_87 : decode cX6_fixToFour 87 = .ok (.iconst 2, 1) := by decide +kernel
theorem dX6_fixToFour_88 : decode cX6_fixToFour 88 = .ok (.aload_n 0, 1) := by decide +kernel
theorem dX6_fixToFour_89 : decode cX6_fixToFour 89 = .ok (.getfield 18, 3) := by decide +kernel
theorem dX6_fixToFour_92 : decode cX6_fixToFour 92 = .ok (.iload_n 2, 1) := by decide +kernel
theorem dX6_fixToFour_93 : decode cX6_fixToFour 93 = .ok (.iconst 2, 1) := by decide +kernel
theorem dX6_fixToFour_94 : decode cX6_fixToFour 94 = .ok (.iadd, 1) := by decide +kernel
theorem dX6_fixToFour_95 : decode cX6_fixToFour 95 = .ok (.invokevirtual 272, 3) := by decide +kernel
theorem dX6_fixToFour_98 : decode cX6_fixToFour 98 = .ok (.lload 6, 2) := by decide +kernel
theorem dX6_fixToFour_100 : decode cX6_fixToFour 100 = .ok (.bipush 21, 2) := by decide +kernel
theorem dX6_fixToFour_102 : decode cX6_fixToFour 102 = .ok (.iload 5, 2) := by decide +kernel
theorem dX6_fixToFour_104 : decode cX6_fixToFour 104 = .ok (.i2l, 1) := by decide +kernel
theorem dX6_fixToFour_105 : decode cX6_fixToFour 105 = .ok (.invokestatic 291, 3) := by decide +kernel
theorem dX6_fixToFour_108 : decode cX6_fixToFour 108 = .ok (.i2l, 1) := by decide +kernel
theorem dX6_fixToFour_109 : decode cX6_fixToFour 109 = .ok (.invokevirtual 99, 3) := by decide +kernel
theorem dX6_fixToFour_112 : decode cX6_fixToFour 112 = .ok (.goto 19, 3) := by decide +kernel
theorem dX6_fixToFour_115 : decode cX6_fixToFour 115 = .ok (.aload_n 0, 1) := by decide +kernel
theorem dX6_fixToFour_116 : decode cX6_fixToFour 116 = .ok (.aload_n 1, 1) := by decide +kernel
theorem dX6_fixToFour_117 : decode cX6_fixToFour 117 = .ok (.iload_n 2, 1) := by decide +kernel
theorem dX6_fixToFour_118 : decode cX6_fixToFour 118 = .ok (.aload_n 1, 1) := by decide +kernel
theorem dX6_fixToFour_119 : decode cX6_fixToFour 119 = .ok (.getfield 438, 3) := by decide +kernel
theorem dX6_fixToFour_122 : decode cX6_fixToFour 122 = .ok (.bipush 16, 2) := by decide +kernel
theorem dX6_fixToFour_124 : decode cX6_fixToFour 124 = .ok (.aload_n 1, 1) := by decide +kernel
theorem dX6_fixToFour_125 : decode cX6_fixToFour 125 = .ok (.getfield 439, 3) := by decide +kernel
theorem dX6_fixToFour_128 : decode cX6_fixToFour 128 = .ok (.invokevirtual 298, 3) := by decide +kernel
theorem dX6_fixToFour_131 : decode cX6_fixToFour 131 = .ok (.return_, 1) := by decide +kernel
theorem dX6_errorFromSix_0 : decode cX6_errorFromSix 0 = .ok (.aload_n 1, 1) := by decide +kernel
theorem dX6_errorFromSix_1 : decode cX6_errorFromSix 1 = .ok (.getfield 408, 3) := by decide +kernel
theorem dX6_errorFromSix_4 : decode cX6_errorFromSix 4 = .ok (.aload_n 1, 1) := by decide +kernel
theorem dX6_errorFromSix_5 : decode cX6_errorFromSix 5 = .ok (.getfield 433, 3) := by decide +kernel
theorem dX6_errorFromSix_8 : decode cX6_errorFromSix 8 = .ok (.iadd, 1) := by decide +kernel
theorem dX6_errorFromSix_9 : decode cX6_errorFromSix 9 = .ok (.istore_n 3, 1) := by decide +kernel
theorem dX6_errorFromSix_10 : decode cX6_errorFromSix 10 = .ok (.aload_n 1, 1) := by decide +kernel
theorem dX6_errorFromSix_11 : decode cX6_errorFromSix 11 = .ok (.getfield 438, 3) := by decide +kernel
theorem dX6_errorFromSix_14 : decode cX6_errorFromSix 14 = .ok (.aload_n 1, 1) := by decide +kernel
theorem dX6_errorFromSix_15 : decode cX6_errorFromSix 15 = .ok (.getfield 433, 3) := by decide +kernel
theorem dX6_errorFromSix_18 : decode cX6_errorFromSix 18 = .ok (.i2l, 1) := by decide +kernel
theorem dX6_errorFromSix_19 : decode cX6_errorFromSix 19 = .ok (.ladd, 1) := by decide +kernel
theorem dX6_errorFromSix_20 : decode cX6_errorFromSix 20 = .ok (.ldc2_w 289, 3) := by decide +kernel
theorem dX6_errorFromSix_23 : decode cX6_errorFromSix 23 = .ok (.ladd, 1) := by decide +kernel
theorem dX6_errorFromSix_24 : decode cX6_errorFromSix 24 = .ok (.aload_n 0, 1) := by decide +kernel
theorem dX6_errorFromSix_25 : decode cX6_errorFromSix 25 = .ok (.getfield 14, 3) := by decide +kernel
theorem dX6_errorFromSix_28 : decode cX6_errorFromSix 28 = .ok (.aload_n 1, 1) := by decide +kernel
theorem dX6_errorFromSix_29 : decode cX6_errorFromSix 29 = .ok (.getfield 408, 3) := by decide +kernel
theorem dX6_errorFromSix_32 : decode cX6_errorFromSix 32 = .ok (.iload_n 3, 1) := by decide +kernel
theorem dX6_errorFromSix_33 : decode cX6_errorFromSix 33 = .ok (.invokevirtual 163, 3) := by decide +kernel
theorem dX6_errorFromSix_36 : decode cX6_errorFromSix 36 = .ok (.ladd, 1) := by decide +kernel
theorem dX6_errorFromSix_37 : decode cX6_errorFromSix 37 = .ok (.invokestatic 305, 3) := by decide +kernel
theorem dX6_errorFromSix_40 : decode cX6_errorFromSix 40 = .ok (.ldc_w 308, 3) := by decide +kernel
theorem dX6_errorFromSix_43 : decode cX6_errorFromSix 43 = .ok (.if_icmp .eq 5, 3) := by decide +kernel
theorem dX6_errorFromSix_46 : decode cX6_errorFromSix 46 = .ok (.iconst 4, 1) := by decide +kernel
theorem dX6_errorFromSix_47 : decode cX6_errorFromSix 47 = .ok (.ireturn, 1) := by decide +kernel
theorem dX6_errorFromSix_48 : decode cX6_errorFromSix 48 = .ok (.aload_n 0, 1) := by decide +kernel
theorem dX6_errorFromSix_49 : decode cX6_errorFromSix 49 = .ok (.getfield 14, 3) := by decide +kernel
theorem dX6_errorFromSix_52 : decode cX6_errorFromSix 52 = .ok (.aload_n 1, 1) := by decide +kernel
theorem dX6_errorFromSix_53 : decode cX6_errorFromSix 53 = .ok (.getfield 408, 3) := by decide +kernel
theorem dX6_errorFromSix_56 : decode cX6_errorFromSix 56 = .ok (.invokevirtual 158, 3) := by decide +kernel
theorem dX6_errorFromSix_59 : decode cX6_errorFromSix 59 = .ok (.aload_n 0, 1) := by decide +kernel
theorem dX6_errorFromSix_60 : decode cX6_errorFromSix 60 = .ok (.getfield 14, 3) := by decide +kernel
theorem dX6_errorFromSix_63 : decode cX6_errorFromSix 63 = .ok (.aload_n 1, 1) := by decide +kernel
theorem dX6_errorFromSix_64 : decode cX6_errorFromSix 64 = .ok (.getfield 408, 3) := by decide +kernel
theorem dX6_errorFromSix_67 : decode cX6_errorFromSix 67 = .ok (.iconst 1, 1) := by decide +kernel
theorem dX6_errorFromSix_68 : decode cX6_errorFromSix 68 = .ok (.iadd, 1) := by decide +kernel
theorem dX6_errorFromSix_69 : decode cX6_errorFromSix 69 = .ok (.invokevirtual 158, 3) := by decide +kernel
theorem dX6_errorFromSix_72 : decode cX6_errorFromSix 72 = .ok (.invokestatic 440, 3) := by decide +kernel
theorem dX6_errorFromSix_75 : decode cX6_errorFromSix 75 = .ok (.istore 4, 2) := by decide +kernel
theorem dX6_errorFromSix_77 : decode cX6_errorFromSix 77 = .ok (.iload 4, 2) := by decide +kernel
theorem dX6_errorFromSix_79 : decode cX6_errorFromSix 79 = .ok (.iconst (-1), 1) := by decide +kernel
theorem dX6_errorFromSix_80 : decode cX6_errorFromSix 80 = .ok (.if_icmp .eq 30, 3) := by decide +kernel
theorem dX6_errorFromSix_83 : decode cX6_errorFromSix 83 = .ok (.aload_n 2, 1) := by decide +kernel
theorem dX6_errorFromSix_84 : decode cX6_errorFromSix 84 = .ok (.aload_n 0, 1) := by decide +kernel
theorem dX6_errorFromSix_85 : decode cX6_errorFromSix 85 = .ok (.getfield 14, 3) := by decide +kernel
theorem dX6_errorFromSix_88 : decode cX6_errorFromSix 88 = .ok (.aload_n 1, 1) := by decide +kernel
theorem dX6_errorFromSix_89 : decode cX6_errorFromSix 89 = .ok (.getfield 408, 3) := by decide +kernel
theorem dX6_errorFromSix_92 : decode cX6_errorFromSix 92 = .ok (.bipush 8, 2) := by decide +kernel
theorem dX6_errorFromSix_94 : decode cX6_errorFromSix 94 = .ok (.iadd, 1) := by decide +kernel
theorem dX6_errorFromSix_95 : decode cX6_errorFromSix 95 = .ok (.iload_n 3, 1) := by decide +kernel
theorem dX6_errorFromSix_96 : decode cX6_errorFromSix 96 = .ok (.invokevirtual 443, 3) := by decide +kernel
theorem dX6_errorFromSix_99 : decode cX6_errorFromSix 99 = .ok (.ifCond .eq 11, 3) := by decide +kernel
theorem dX6_errorFromSix_102 : decode cX6_errorFromSix 102 = .ok (.aload_n 0, 1) := by decide +kernel
theorem dX6_errorFromSix_103 : decode cX6_errorFromSix 103 = .ok (.aload_n 2, 1) := by decide +kernel
theorem dX6_errorFromSix_104 : decode cX6_errorFromSix 104 = .ok (.invokevirtual 444, 3) := by decide +kernel
theorem dX6_errorFromSix_107 : decode cX6_errorFromSix 107 = .ok (.ifCond .ne 6, 3) := by decide +kernel
theorem dX6_errorFromSix_110 : decode cX6_errorFromSix 110 = .ok (.bipush 8, 2) := by decide +kernel
theorem dX6_errorFromSix_112 : decode cX6_errorFromSix 112 = .ok (.ireturn, 1) := by decide +kernel
theorem dX6_errorFromSix_113 : decode cX6_errorFromSix 113 = .ok (.aload_n 0, 1) := by decide +kernel
theorem dX6_errorFromSix_114 : decode cX6_errorFromSix 114 = .ok (.iload 4, 2) := by decide +kernel
theorem dX6_errorFromSix_116 : decode cX6_errorFromSix 116 = .ok (.aload_n 0, 1) := by decide +kernel
theorem dX6_errorFromSix_117 : decode cX6_errorFromSix 117 = .ok (.getfield 14, 3) := by decide +kernel
theorem dX6_errorFromSix_120 : decode cX6_errorFromSix 120 = .ok (.aload_n 1, 1) := by decide +kernel
theorem dX6_errorFromSix_121 : decode cX6_errorFromSix 121 = .ok (.getfield 408, 3) := by decide +kernel
theorem dX6_errorFromSix_124 : decode cX6_errorFromSix 124 = .ok (.iconst 4, 1) := by decide +kernel
theorem dX6_errorFromSix_125 : decode cX6_errorFromSix 125 = .ok (.iadd, 1) := by decide +kernel
theorem dX6_errorFromSix_126 : decode cX6_errorFromSix 126 = .ok (.iconst 4, 1) := by decide +kernel
theorem dX6_errorFromSix_127 : decode cX6_errorFromSix 127 = .ok (.invokevirtual 388, 3) := by decide +kernel
theorem dX6_errorFromSix_130 : decode cX6_errorFromSix 130 = .ok (.invokevirtual 448, 3) := by decide +kernel
theorem dX6_errorFromSix_133 : decode cX6_errorFromSix 133 = .ok (.istore 5, 2) := by decide +kernel
theorem dX6_errorFromSix_135 : decode cX6_errorFromSix 135 = .ok (.iload 5, 2) := by decide +kernel
theorem dX6_errorFromSix_137 : decode cX6_errorFromSix 137 = .ok (.iconst (-1), 1) := by decide +kernel
theorem dX6_errorFromSix_138 : decode cX6_errorFromSix 138 = .ok (.if_icmp .ne 6, 3) := by decide +kernel
theorem dX6_errorFromSix_141 : decode cX6_errorFromSix 141 = .ok (.bipush 8, 2) := by decide +kernel
theorem dX6_errorFromSix_143 : decode cX6_errorFromSix 143 = .ok (.ireturn, 1) := by decide +kernel
theorem dX6_errorFromSix_144 : decode cX6_errorFromSix 144 = .ok (.aload_n 0, 1) := by decide +kernel
theorem dX6_errorFromSix_145 : decode cX6_errorFromSix 145 = .ok (.aload_n 2, 1) := by decide +kernel
theorem dX6_errorFromSix_146 : decode cX6_errorFromSix 146 = .ok (.invokevirtual 452, 3) := by decide +kernel
theorem dX6_errorFromSix_149 : decode cX6_errorFromSix 149 = .ok (.istore 6, 2) := by decide +kernel
theorem dX6_errorFromSix_151 : decode cX6_errorFromSix 151 = .ok (.aload_n 0, 1) := by decide +kernel
theorem dX6_errorFromSix_152 : decode cX6_errorFromSix 152 = .ok (.aload_n 2, 1) := by decide +kernel
theorem dX6_errorFromSix_153 : decode cX6_errorFromSix 153 = .ok (.iload 6, 2) := by decide +kernel
theorem dX6_errorFromSix_155 : decode cX6_errorFromSix 155 = .ok (.invokevirtual 434, 3) := by decide +kernel
theorem dX6_errorFromSix_158 : decode cX6_errorFromSix 158 = .ok (.aload_n 0, 1) := by decide +kernel
theorem dX6_errorFromSix_159 : decode cX6_errorFromSix 159 = .ok (.getfield 18, 3) := by decide +kernel
theorem dX6_errorFromSix_162 : decode cX6_errorFromSix 162 = .ok (.iload 6, 2) := by decide +kernel
theorem dX6_errorFromSix_164 : decode cX6_errorFromSix 164 = .ok (.aload_n 2, 1) := by decide +kernel
theorem dX6_errorFromSix_165 : decode cX6_errorFromSix 165 = .ok (.getfield 455, 3) := by decide +kernel
theorem dX6_errorFromSix_168 : decode cX6_errorFromSix 168 = .ok (.iadd, 1) := by decide +kernel
theorem dX6_errorFromSix_169 : decode cX6_errorFromSix 169 = .ok (.sipush 556, 3) := by decide +kernel
theorem dX6_errorFromSix_172 : decode cX6_errorFromSix 172 = .ok (.invokestatic 329, 3) := by decide +kernel
theorem dX6_errorFromSix_175 : decode cX6_errorFromSix 175 = .ok (.putfield 89, 3) := by decide +kernel
theorem dX6_errorFromSix_178 : decode cX6_errorFromSix 178 = .ok (.aload_n 0, 1) := by decide +kernel
theorem dX6_errorFromSix_179 : decode cX6_errorFromSix 179 = .ok (.iload 4, 2) := by decide +kernel
theorem dX6_errorFromSix_181 : decode cX6_errorFromSix 181 = .ok (.iload 5, 2) := by decide +kernel
theorem dX6_errorFromSix_183 : decode cX6_errorFromSix 183 = .ok (.lconst 0, 1) := by decide +kernel
theorem dX6_errorFromSix_184 : decode cX6_errorFromSix 184 = .ok (.invokevirtual 334, 3) := by decide +kernel
theorem dX6_errorFromSix_187 : decode cX6_errorFromSix 187 = .ok (.iconst 0, 1) := by decide +kernel
theorem dX6_errorFromSix_188 : decode cX6_errorFromSix 188 = .ok (.ireturn, 1) := by decide +kernel
theorem dX6_innerSixFits_0 : decode cX6_innerSixFits 0 = .ok (.aload_n 0, 1) := by decide +kernel
theorem dX6_innerSixFits_1 : decode cX6_innerSixFits 1 = .ok (.getfield 31, 3) := by decide +kernel
theorem dX6_innerSixFits_4 : decode cX6_innerSixFits 4 = .ok (.aload_n 0, 1) := by decide +kernel
theorem dX6_innerSixFits_5 : decode cX6_innerSixFits 5 = .ok (.getfield 14, 3) := by decide +kernel
theorem dX6_innerSixFits_8 : decode cX6_innerSixFits 8 = .ok (.aload_n 1, 1) := by decide +kernel
theorem dX6_innerSixFits_9 : decode cX6_innerSixFits 9 = .ok (.getfield 456, 3) := by decide +kernel
theorem dX6_innerSixFits_12 : decode cX6_innerSixFits 12 = .ok (.bipush 8, 2) := by decide +kernel
theorem dX6_innerSixFits_14 : decode cX6_innerSixFits 14 = .ok (.iadd, 1) := by decide +kernel
theorem dX6_innerSixFits_15 : decode cX6_innerSixFits 15 = .ok (.bipush 8, 2) := by decide +kernel
theorem dX6_innerSixFits_17 : decode cX6_innerSixFits 17 = .ok (.invokevirtual 388, 3) := by decide +kernel
theorem dX6_innerSixFits_20 : decode cX6_innerSixFits 20 = .ok (.aload_n 0, 1) := by decide +kernel
theorem dX6_innerSixFits_21 : decode cX6_innerSixFits 21 = .ok (.getfield 14, 3) := by decide +kernel
theorem dX6_innerSixFits_24 : decode cX6_innerSixFits 24 = .ok (.aload_n 1, 1) := by decide +kernel
theorem dX6_innerSixFits_25 : decode cX6_innerSixFits 25 = .ok (.getfield 456, 3) := by decide +kernel
theorem dX6_innerSixFits_28 : decode cX6_innerSixFits 28 = .ok (.bipush 16, 2) := by decide +kernel
theorem dX6_innerSixFits_30 : decode cX6_innerSixFits 30 = .ok (.iadd, 1) := by decide +kernel
theorem dX6_innerSixFits_31 : decode cX6_innerSixFits 31 = .ok (.bipush 8, 2) := by decide +kernel
theorem dX6_innerSixFits_33 : decode cX6_innerSixFits 33 = .ok (.invokevirtual 388, 3) := by decide +kernel
theorem dX6_innerSixFits_36 : decode cX6_innerSixFits 36 = .ok (.invokevirtual 182, 3) := by decide +kernel
theorem dX6_innerSixFits_39 : decode cX6_innerSixFits 39 = .ok (.lstore_n 2, 1) := by decide +kernel
theorem dX6_innerSixFits_40 : decode cX6_innerSixFits 40 = .ok (.aload_n 0, 1) := by decide +kernel
theorem dX6_innerSixFits_41 : decode cX6_innerSixFits 41 = .ok (.getfield 31, 3) := by decide +kernel
theorem dX6_innerSixFits_44 : decode cX6_innerSixFits 44 = .ok (.aload_n 0, 1) := by decide +kernel
theorem dX6_innerSixFits_45 : decode cX6_innerSixFits 45 = .ok (.getfield 14, 3) := by decide +kernel
theorem dX6_innerSixFits_48 : decode cX6_innerSixFits 48 = .ok (.aload_n 1, 1) := by decide +kernel
theorem dX6_innerSixFits_49 : decode cX6_innerSixFits 49 = .ok (.getfield 456, 3) := by decide +kernel
theorem dX6_innerSixFits_52 : decode cX6_innerSixFits 52 = .ok (.bipush 24, 2) := by decide +kernel
theorem dX6_innerSixFits_54 : decode cX6_innerSixFits 54 = .ok (.iadd, 1) := by decide +kernel
theorem dX6_innerSixFits_55 : decode cX6_innerSixFits 55 = .ok (.bipush 8, 2) := by decide +kernel
theorem dX6_innerSixFits_57 : decode cX6_innerSixFits 57 = .ok (.invokevirtual 388, 3) := by decide +kernel
theorem dX6_innerSixFits_60 : decode cX6_innerSixFits 60 = .ok (.aload_n 0, 1) := by decide +kernel
theorem dX6_innerSixFits_61 : decode cX6_innerSixFits 61 = .ok (.getfield 14, 3) := by decide +kernel
theorem dX6_innerSixFits_64 : decode cX6_innerSixFits 64 = .ok (.aload_n 1, 1) := by decide +kernel
theorem dX6_innerSixFits_65 : decode cX6_innerSixFits 65 = .ok (.getfield 456, 3) := by decide +kernel
theorem dX6_innerSixFits_68 : decode cX6_innerSixFits 68 = .ok (.bipush 32, 2) := by decide +kernel
theorem dX6_innerSixFits_70 : decode cX6_innerSixFits 70 = .ok (.iadd, 1) := by decide +kernel
theorem dX6_innerSixFits_71 : decode cX6_innerSixFits 71 = .ok (.bipush 8, 2) := by decide +kernel
theorem dX6_innerSixFits_73 : decode cX6_innerSixFits 73 = .ok (.invokevirtual 388, 3) := by decide +kernel
theorem dX6_innerSixFits_76 : decode cX6_innerSixFits 76 = .ok (.invokevirtual 182, 3) := by decide +kernel
theorem dX6_innerSixFits_79 : decode cX6_innerSixFits 79 = .ok (.lstore 4, 2) := by decide +kernel
theorem dX6_innerSixFits_81 : decode cX6_innerSixFits 81 = .ok (.lload_n 2, 1) := by decide +kernel
theorem dX6_innerSixFits_82 : decode cX6_innerSixFits 82 = .ok (.ldc2_w 390, 3) := by decide +kernel
theorem dX6_innerSixFits_85 : decode cX6_innerSixFits 85 = .ok (.lcmp, 1) := by decide +kernel
theorem dX6_innerSixFits_86 : decode cX6_innerSixFits 86 = .ok (.ifCond .eq 22, 3) := by decide +kernel
theorem dX6_innerSixFits_89 : decode cX6_innerSixFits 89 = .ok (.lload 4, 2) := by decide +kernel
theorem dX6_innerSixFits_91 : decode cX6_innerSixFits 91 = .ok (.ldc2_w 390, 3) := by decide +kernel
theorem dX6_innerSixFits_94 : decode cX6_innerSixFits 94 = .ok (.lcmp, 1) := by decide +kernel
theorem dX6_innerSixFits_95 : decode cX6_innerSixFits 95 = .ok (.ifCond .eq 13, 3) := by decide +kernel
theorem dX6_innerSixFits_98 : decode cX6_innerSixFits 98 = .ok (.aload_n 1, 1) := by decide +kernel
theorem dX6_innerSixFits_99 : decode cX6_innerSixFits 99 = .ok (.getfield 407, 3) := by decide +kernel
theorem dX6_innerSixFits_102 : decode cX6_innerSixFits 102 = .ok (.invokestatic 426, 3) := by decide +kernel
theorem dX6_innerSixFits_105 : decode cX6_innerSixFits 105 = .ok (.ifCond .eq 5, 3) := by decide +kernel
theorem dX6_innerSixFits_108 : decode cX6_innerSixFits 108 = .ok (.iconst 0, 1) := by decide +kernel
theorem dX6_innerSixFits_109 : decode cX6_innerSixFits 109 = .ok (.ireturn, 1) := by decide +kernel
theorem dX6_innerSixFits_110 : decode cX6_innerSixFits 110 = .ok (.aload_n 1, 1) := by decide +kernel
theorem dX6_innerSixFits_111 : decode cX6_innerSixFits 111 = .ok (.lload_n 2, 1) := by decide +kernel
theorem dX6_innerSixFits_112 : decode cX6_innerSixFits 112 = .ok (.lload 4, 2) := by decide +kernel
theorem dX6_innerSixFits_114 : decode cX6_innerSixFits 114 = .ok (.invokevirtual 392, 3) := by decide +kernel
theorem dX6_innerSixFits_117 : decode cX6_innerSixFits 117 = .ok (.bipush 20, 2) := by decide +kernel
theorem dX6_innerSixFits_119 : decode cX6_innerSixFits 119 = .ok (.aload_n 1, 1) := by decide +kernel
theorem dX6_innerSixFits_120 : decode cX6_innerSixFits 120 = .ok (.getfield 433, 3) := by decide +kernel
theorem dX6_innerSixFits_123 : decode cX6_innerSixFits 123 = .ok (.iadd, 1) := by decide +kernel
theorem dX6_innerSixFits_124 : decode cX6_innerSixFits 124 = .ok (.ldc_w 308, 3) := by decide +kernel
theorem dX6_innerSixFits_127 : decode cX6_innerSixFits 127 = .ok (.if_icmp .le 5, 3) := by decide +kernel
theorem dX6_innerSixFits_130 : decode cX6_innerSixFits 130 = .ok (.iconst 0, 1) := by decide +kernel
theorem dX6_innerSixFits_131 : decode cX6_innerSixFits 131 = .ok (.ireturn, 1) := by decide +kernel
theorem dX6_innerSixFits_132 : decode cX6_innerSixFits 132 = .ok (.aload_n 1, 1) := by decide +kernel
theorem dX6_innerSixFits_133 : decode cX6_innerSixFits 133 = .ok (.getfield 407, 3) := by decide +kernel
theorem dX6_innerSixFits_136 : decode cX6_innerSixFits 136 = .ok (.bipush 58, 2) := by decide +kernel
theorem dX6_innerSixFits_138 : decode cX6_innerSixFits 138 = .ok (.if_icmp .eq 5, 3) := by decide +kernel
theorem dX6_innerSixFits_141 : decode cX6_innerSixFits 141 = .ok (.iconst 1, 1) := by decide +kernel
theorem dX6_innerSixFits_142 : decode cX6_innerSixFits 142 = .ok (.ireturn, 1) := by decide +kernel
theorem dX6_innerSixFits_143 : decode cX6_innerSixFits 143 = .ok (.aload_n 1, 1) := by decide +kernel
theorem dX6_innerSixFits_144 : decode cX6_innerSixFits 144 = .ok (.invokevirtual 429, 3) := by decide +kernel
theorem dX6_innerSixFits_147 : decode cX6_innerSixFits 147 = .ok (.ifCond .ne 32, 3) := by decide +kernel
theorem dX6_innerSixFits_150 : decode cX6_innerSixFits 150 = .ok (.aload_n 1, 1) := by decide +kernel
theorem dX6_innerSixFits_151 : decode cX6_innerSixFits 151 = .ok (.getfield 455, 3) := by decide +kernel
theorem dX6_innerSixFits_154 : decode cX6_innerSixFits 154 = .ok (.iconst 4, 1) := by decide +kernel
theorem dX6_innerSixFits_155 : decode cX6_innerSixFits 155 = .ok (.if_icmp .lt 24, 3) := by decide +kernel
theorem dX6_innerSixFits_158 : decode cX6_innerSixFits 158 = .ok (.aload_n 0, 1) := by decide +kernel
theorem dX6_innerSixFits_159 : decode cX6_innerSixFits 159 = .ok (.getfield 14, 3) := by decide +kernel
theorem dX6_innerSixFits_162 : decode cX6_innerSixFits 162 = .ok (.aload_n 1, 1) := by decide +kernel
theorem dX6_innerSixFits_163 : decode cX6_innerSixFits 163 = .ok (.getfield 408, 3) := by decide +kernel
theorem dX6_innerSixFits_166 : decode cX6_innerSixFits 166 = .ok (.invokevirtual 158, 3) := by decide +kernel
theorem dX6_innerSixFits_169 : decode cX6_innerSixFits 169 = .ok (.invokestatic 430, 3) := by decide +kernel
theorem dX6_innerSixFits_172 : decode cX6_innerSixFits 172 = .ok (.ifCond .eq 7, 3) := by decide +kernel
theorem dX6_innerSixFits_175 : decode cX6_innerSixFits 175 = .ok (.iconst 1, 1) := by decide +kernel
theorem dX6_innerSixFits_176 : decode cX6_innerSixFits 176 = .ok (.goto 4, 3) := by decide +kernel
theorem dX6_innerSixFits_179 : decode cX6_innerSixFits 179 = .ok (.iconst 0, 1) := by decide +kernel
theorem dX6_innerSixFits_180 : decode cX6_innerSixFits 180 = .ok (.ireturn, 1) := by decide +kernel
theorem dX6_errorToFour_0 : decode cX6_errorToFour 0 = .ok (.iload_n 0, 1) := by decide +kernel
theorem dX6_errorToFour_1 : decode cX6_errorToFour 1 = .ok (.tableswitch 46 1 3 #[27, 36, 40], 27) := by decide +kernel
theorem dX6_errorToFour_28 : decode cX6_errorToFour 28 = .ok (.getstatic 458, 3) := by decide +kernel
theorem dX6_errorToFour_31 : decode cX6_errorToFour 31 = .ok (.iload_n 1, 1) := by decide +kernel
theorem dX6_errorToFour_32 : decode cX6_errorToFour 32 = .ok (.i2l, 1) := by decide +kernel
theorem dX6_errorToFour_33 : decode cX6_errorToFour 33 = .ok (.invokestatic 340, 3) := by decide +kernel
theorem dX6_errorToFour_36 : decode cX6_errorToFour 36 = .ok (.ireturn, 1) := by decide +kernel
theorem dX6_errorToFour_37 : decode cX6_errorToFour 37 = .ok (.sipush 772, 3) := by decide +kernel
theorem dX6_errorToFour_40 : decode cX6_errorToFour 40 = .ok (.ireturn, 1) := by decide +kernel
theorem dX6_errorToFour_41 : decode cX6_errorToFour 41 = .ok (.sipush 2816, 3) := by decide +kernel
theorem dX6_errorToFour_44 : decode cX6_errorToFour 44 = .ok (.iload_n 1, 1) := by decide +kernel
theorem dX6_errorToFour_45 : decode cX6_errorToFour 45 = .ok (.ior, 1) := by decide +kernel
theorem dX6_errorToFour_46 : decode cX6_errorToFour 46 = .ok (.ireturn, 1) := by decide +kernel
theorem dX6_errorToFour_47 : decode cX6_errorToFour 47 = .ok (.iload_n 1, 1) := by decide +kernel
theorem dX6_errorToFour_48 : decode cX6_errorToFour 48 = .ok (.ifCond .ne 9, 3) := by decide +kernel
theorem dX6_errorToFour_51 : decode cX6_errorToFour 51 = .ok (.sipush 3072, 3) := by decide +kernel
theorem dX6_errorToFour_54 : decode cX6_errorToFour 54 = .ok (.goto 15, 3) := by decide +kernel
theorem dX6_errorToFour_57 : decode cX6_errorToFour 57 = .ok (.iload_n 1, 1) := by decide +kernel
theorem dX6_errorToFour_58 : decode cX6_errorToFour 58 = .ok (.iconst 1, 1) := by decide +kernel
theorem dX6_errorToFour_59 : decode cX6_errorToFour 59 = .ok (.if_icmp .ne 9, 3) := by decide +kernel
theorem dX6_errorToFour_62 : decode cX6_errorToFour 62 = .ok (.sipush 770, 3) := by decide +kernel
theorem dX6_errorToFour_65 : decode cX6_errorToFour 65 = .ok (.goto 4, 3) := by decide +kernel
theorem dX6_errorToFour_68 : decode cX6_errorToFour 68 = .ok (.iconst (-1), 1) := by decide +kernel
theorem dX6_errorToFour_69 : decode cX6_errorToFour 69 = .ok (.ireturn, 1) := by decide +kernel
theorem dX6_secondToFour_0 : decode cX6_secondToFour 0 = .ok (.iload_n 1, 1) := by decide +kernel
theorem dX6_secondToFour_1 : decode cX6_secondToFour 1 = .ok (.sipush 772, 3) := by decide +kernel
theorem dX6_secondToFour_4 : decode cX6_secondToFour 4 = .ok (.if_icmp .ne 36, 3) := by decide +kernel
theorem dX6_secondToFour_7 : decode cX6_secondToFour 7 = .ok (.lconst 0, 1) := by decide +kernel
theorem dX6_secondToFour_8 : decode cX6_secondToFour 8 = .ok (.lload_n 2, 1) := by decide +kernel
theorem dX6_secondToFour_9 : decode cX6_secondToFour 9 = .ok (.ldc2_w 461, 3) := by decide +kernel
theorem dX6_secondToFour_12 : decode cX6_secondToFour 12 = .ok (.lsub, 1) := by decide +kernel
theorem dX6_secondToFour_13 : decode cX6_secondToFour 13 = .ok (.invokestatic 463, 3) := by decide +kernel
theorem dX6_secondToFour_16 : decode cX6_secondToFour 16 = .ok (.lstore 4, 2) := by decide +kernel
theorem dX6_secondToFour_18 : decode cX6_secondToFour 18 = .ok (.lload 4, 2) := by decide +kernel
theorem dX6_secondToFour_20 : decode cX6_secondToFour 20 = .ok (.aload_n 0, 1) := by decide +kernel
theorem dX6_secondToFour_21 : decode cX6_secondToFour 21 = .ok (.getfield 73, 3) := by decide +kernel
theorem dX6_secondToFour_24 : decode cX6_secondToFour 24 = .ok (.aload_n 0, 1) := by decide +kernel
theorem dX6_secondToFour_25 : decode cX6_secondToFour 25 = .ok (.getfield 76, 3) := by decide +kernel
theorem dX6_secondToFour_28 : decode cX6_secondToFour 28 = .ok (.bipush 20, 2) := by decide +kernel
theorem dX6_secondToFour_30 : decode cX6_secondToFour 30 = .ok (.isub, 1) := by decide +kernel
theorem dX6_secondToFour_31 : decode cX6_secondToFour 31 = .ok (.invokestatic 329, 3) := by decide +kernel
theorem dX6_secondToFour_34 : decode cX6_secondToFour 34 = .ok (.i2l, 1) := by decide +kernel
theorem dX6_secondToFour_35 : decode cX6_secondToFour 35 = .ok (.invokestatic 465, 3) := by decide +kernel
theorem dX6_secondToFour_38 : decode cX6_secondToFour 38 = .ok (.l2i, 1) := by decide +kernel
theorem dX6_secondToFour_39 : decode cX6_secondToFour 39 = .ok (.ireturn, 1) := by decide +kernel
theorem dX6_secondToFour_40 : decode cX6_secondToFour 40 = .ok (.iload_n 1, 1) := by decide +kernel
theorem dX6_secondToFour_41 : decode cX6_secondToFour 41 = .ok (.sipush 3072, 3) := by decide +kernel
theorem dX6_secondToFour_44 : decode cX6_secondToFour 44 = .ok (.if_icmp .eq 5, 3) := by decide +kernel
theorem dX6_secondToFour_47 : decode cX6_secondToFour 47 = .ok (.iconst 0, 1) := by decide +kernel
theorem dX6_secondToFour_48 : decode cX6_secondToFour 48 = .ok (.ireturn, 1) := by decide +kernel
theorem dX6_secondToFour_49 : decode cX6_secondToFour 49 = .ok (.getstatic 467, 3) := by decide +kernel
theorem dX6_secondToFour_52 : decode cX6_secondToFour 52 = .ok (.lload_n 2, 1) := by decide +kernel
theorem dX6_secondToFour_53 : decode cX6_secondToFour 53 = .ok (.invokestatic 340, 3) := by decide +kernel
theorem dX6_secondToFour_56 : decode cX6_secondToFour 56 = .ok (.istore 4, 2) := by decide +kernel
theorem dX6_secondToFour_58 : decode cX6_secondToFour 58 = .ok (.iload 4, 2) := by decide +kernel
theorem dX6_secondToFour_60 : decode cX6_secondToFour 60 = .ok (.iconst (-1), 1) := by decide +kernel
theorem dX6_secondToFour_61 : decode cX6_secondToFour 61 = .ok (.if_icmp .ne 7, 3) := by decide +kernel
theorem dX6_secondToFour_64 : decode cX6_secondToFour 64 = .ok (.iconst (-1), 1) := by decide +kernel
theorem dX6_secondToFour_65 : decode cX6_secondToFour 65 = .ok (.goto 8, 3) := by decide +kernel
theorem dX6_secondToFour_68 : decode cX6_secondToFour 68 = .ok (.iload 4, 2) := by decide +kernel
theorem dX6_secondToFour_70 : decode cX6_secondToFour 70 = .ok (.bipush 24, 2) := by decide +kernel
theorem dX6_secondToFour_72 : decode cX6_secondToFour 72 = .ok (.ishl, 1) := by decide +kernel
theorem dX6_secondToFour_73 : decode cX6_secondToFour 73 = .ok (.ireturn, 1) := by decide +kernel
theorem dX6_putInnerFour_0 : decode cX6_putInnerFour 0 = .ok (.bipush 20, 2) := by decide +kernel
theorem dX6_putInnerFour_2 : decode cX6_putInnerFour 2 = .ok (.aload_n 1, 1) := by decide +kernel
theorem dX6_putInnerFour_3 : decode cX6_putInnerFour 3 = .ok (.getfield 433, 3) := by decide +kernel
theorem dX6_putInnerFour_6 : decode cX6_putInnerFour 6 = .ok (.iadd, 1) := by decide +kernel
theorem dX6_putInnerFour_7 : decode cX6_putInnerFour 7 = .ok (.istore_n 2, 1) := by decide +kernel
theorem dX6_putInnerFour_8 : decode cX6_putInnerFour 8 = .ok (.aload_n 0, 1) := by decide +kernel
theorem dX6_putInnerFour_9 : decode cX6_putInnerFour 9 = .ok (.aload_n 0, 1) := by decide +kernel
theorem dX6_putInnerFour_10 : decode cX6_putInnerFour 10 = .ok (.getfield 18, 3) := by decide +kernel
theorem dX6_putInnerFour_13 : decode cX6_putInnerFour 13 = .ok (.bipush 8, 2) := by decide +kernel
theorem dX6_putInnerFour_15 : decode cX6_putInnerFour 15 = .ok (.aload_n 1, 1) := by decide +kernel
theorem dX6_putInnerFour_16 : decode cX6_putInnerFour 16 = .ok (.iload_n 2, 1) := by decide +kernel
theorem dX6_putInnerFour_17 : decode cX6_putInnerFour 17 = .ok (.aload_n 1, 1) := by decide +kernel
theorem dX6_putInnerFour_18 : decode cX6_putInnerFour 18 = .ok (.iload_n 2, 1) := by decide +kernel
theorem dX6_putInnerFour_19 : decode cX6_putInnerFour 19 = .ok (.invokevirtual 470, 3) := by decide +kernel
theorem dX6_putInnerFour_22 : decode cX6_putInnerFour 22 = .ok (.aload_n 1, 1) := by decide +kernel
theorem dX6_putInnerFour_23 : decode cX6_putInnerFour 23 = .ok (.getfield 473, 3) := by decide +kernel
theorem dX6_putInnerFour_26 : decode cX6_putInnerFour 26 = .ok (.aload_n 1, 1) := by decide +kernel
theorem dX6_putInnerFour_27 : decode cX6_putInnerFour 27 = .ok (.getfield 403, 3) := by decide +kernel
theorem dX6_putInnerFour_30 : decode cX6_putInnerFour 30 = .ok (.invokevirtual 474, 3) := by decide +kernel
theorem dX6_putInnerFour_33 : decode cX6_putInnerFour 33 = .ok (.bipush 28, 2) := by decide +kernel
theorem dX6_putInnerFour_35 : decode cX6_putInnerFour 35 = .ok (.istore_n 3, 1) := by decide +kernel
theorem dX6_putInnerFour_36 : decode cX6_putInnerFour 36 = .ok (.aload_n 0, 1) := by decide +kernel
theorem dX6_putInnerFour_37 : decode cX6_putInnerFour 37 = .ok (.getfield 18, 3) := by decide +kernel
theorem dX6_putInnerFour_40 : decode cX6_putInnerFour 40 = .ok (.aload_n 0, 1) := by decide +kernel
theorem dX6_putInnerFour_41 : decode cX6_putInnerFour 41 = .ok (.getfield 14, 3) := by decide +kernel
theorem dX6_putInnerFour_44 : decode cX6_putInnerFour 44 = .ok (.aload_n 1, 1) := by decide +kernel
theorem dX6_putInnerFour_45 : decode cX6_putInnerFour 45 = .ok (.getfield 408, 3) := by decide +kernel
theorem dX6_putInnerFour_48 : decode cX6_putInnerFour 48 = .ok (.iload_n 3, 1) := by decide +kernel
theorem dX6_putInnerFour_49 : decode cX6_putInnerFour 49 = .ok (.aload_n 1, 1) := by decide +kernel
theorem dX6_putInnerFour_50 : decode cX6_putInnerFour 50 = .ok (.getfield 455, 3) := by decide +kernel
theorem dX6_putInnerFour_53 : decode cX6_putInnerFour 53 = .ok (.invokevirtual 276, 3) := by decide +kernel
theorem dX6_putInnerFour_56 : decode cX6_putInnerFour 56 = .ok (.iload_n 3, 1) := by decide +kernel
theorem dX6_putInnerFour_57 : decode cX6_putInnerFour 57 = .ok (.ireturn, 1) := by decide +kernel
theorem dX6_sendFour_0 : decode cX6_sendFour 0 = .ok (.aload_n 1, 1) := by decide +kernel
theorem dX6_sendFour_1 : decode cX6_sendFour 1 = .ok (.bipush 20, 2) := by decide +kernel
theorem dX6_sendFour_3 : decode cX6_sendFour 3 = .ok (.aload_n 0, 1) := by decide +kernel
theorem dX6_sendFour_4 : decode cX6_sendFour 4 = .ok (.getfield 18, 3) := by decide +kernel
theorem dX6_sendFour_7 : decode cX6_sendFour 7 = .ok (.getfield 89, 3) := by decide +kernel
theorem dX6_sendFour_10 : decode cX6_sendFour 10 = .ok (.iadd, 1) := by decide +kernel
theorem dX6_sendFour_11 : decode cX6_sendFour 11 = .ok (.invokevirtual 470, 3) := by decide +kernel
theorem dX6_sendFour_14 : decode cX6_sendFour 14 = .ok (.istore_n 2, 1) := by decide +kernel
theorem dX6_sendFour_15 : decode cX6_sendFour 15 = .ok (.aload_n 0, 1) := by decide +kernel
theorem dX6_sendFour_16 : decode cX6_sendFour 16 = .ok (.aload_n 1, 1) := by decide +kernel
theorem dX6_sendFour_17 : decode cX6_sendFour 17 = .ok (.iload_n 2, 1) := by decide +kernel
theorem dX6_sendFour_18 : decode cX6_sendFour 18 = .ok (.invokevirtual 478, 3) := by decide +kernel
theorem dX6_sendFour_21 : decode cX6_sendFour 21 = .ok (.istore_n 3, 1) := by decide +kernel
theorem dX6_sendFour_22 : decode cX6_sendFour 22 = .ok (.aload_n 0, 1) := by decide +kernel
theorem dX6_sendFour_23 : decode cX6_sendFour 23 = .ok (.getfield 73, 3) := by decide +kernel
theorem dX6_sendFour_26 : decode cX6_sendFour 26 = .ok (.bipush 20, 2) := by decide +kernel
theorem dX6_sendFour_28 : decode cX6_sendFour 28 = .ok (.isub, 1) := by decide +kernel
theorem dX6_sendFour_29 : decode cX6_sendFour 29 = .ok (.istore 4, 2) := by decide +kernel
theorem dX6_sendFour_31 : decode cX6_sendFour 31 = .ok (.iconst 0, 1) := by decide +kernel
theorem dX6_sendFour_32 : decode cX6_sendFour 32 = .ok (.istore 5, 2) := by decide +kernel
theorem dX6_sendFour_34 : decode cX6_sendFour 34 = .ok (.iconst 0, 1) := by decide +kernel
theorem dX6_sendFour_35 : decode cX6_sendFour 35 = .ok (.istore 6, 2) := by decide +kernel
theorem dX6_sendFour_37 : decode cX6_sendFour 37 = .ok (.iload 6, 2) := by decide +kernel
theorem dX6_sendFour_39 : decode cX6_sendFour 39 = .ok (.bipush 49, 2) := by decide +kernel
theorem dX6_sendFour_41 : decode cX6_sendFour 41 = .ok (.if_icmp .ge 161, 3) := by decide +kernel
theorem dX6_sendFour_44 : decode cX6_sendFour 44 = .ok (.iload 5, 2) := by decide +kernel
theorem dX6_sendFour_46 : decode cX6_sendFour 46 = .ok (.aload_n 0, 1) := by decide +kernel
theorem dX6_sendFour_47 : decode cX6_sendFour 47 = .ok (.getfield 18, 3) := by decide +kernel
theorem dX6_sendFour_50 : decode cX6_sendFour 50 = .ok (.getfield 89, 3) := by decide +kernel
theorem dX6_sendFour_53 : decode cX6_sendFour 53 = .ok (.if_icmp .gt 149, 3) := by decide +kernel
theorem dX6_sendFour_56 : decode cX6_sendFour 56 = .ok (.aload_n 0, 1) := by decide +kernel
theorem dX6_sendFour_57 : decode cX6_sendFour 57 = .ok (.getfield 18, 3) := by decide +kernel
theorem dX6_sendFour_60 : decode cX6_sendFour 60 = .ok (.getfield 89, 3) := by decide +kernel
theorem dX6_sendFour_63 : decode cX6_sendFour 63 = .ok (.iload 5, 2) := by decide +kernel
theorem dX6_sendFour_65 : decode cX6_sendFour 65 = .ok (.isub, 1) := by decide +kernel
theorem dX6_sendFour_66 : decode cX6_sendFour 66 = .ok (.istore 7, 2) := by decide +kernel
theorem dX6_sendFour_68 : decode cX6_sendFour 68 = .ok (.iload 7, 2) := by decide +kernel
theorem dX6_sendFour_70 : decode cX6_sendFour 70 = .ok (.iload 4, 2) := by decide +kernel
theorem dX6_sendFour_72 : decode cX6_sendFour 72 = .ok (.if_icmp .gt 8, 3) := by decide +kernel
theorem dX6_sendFour_75 : decode cX6_sendFour 75 = .ok (.iload 7, 2) := by decide +kernel
theorem dX6_sendFour_77 : decode cX6_sendFour 77 = .ok (.goto 11, 3) := by decide +kernel
theorem dX6_sendFour_80 : decode cX6_sendFour 80 = .ok (.iload 4, 2) := by decide +kernel
theorem dX6_sendFour_82 : decode cX6_sendFour 82 = .ok (.bipush 8, 2) := by decide +kernel
theorem dX6_sendFour_84 : decode cX6_sendFour 84 = .ok (.idiv, 1) := by decide +kernel
theorem dX6_sendFour_85 : decode cX6_sendFour 85 = .ok (.bipush 8, 2) := by decide +kernel
theorem dX6_sendFour_87 : decode cX6_sendFour 87 = .ok (.imul, 1) := by decide +kernel
theorem dX6_sendFour_88 : decode cX6_sendFour 88 = .ok (.istore 8, 2) := by decide +kernel
theorem dX6_sendFour_90 : decode cX6_sendFour 90 = .ok (.aload_n 0, 1) := by decide +kernel
theorem dX6_sendFour_91 : decode cX6_sendFour 91 = .ok (.getfield 24, 3) := by decide +kernel
theorem dX6_sendFour_94 : decode cX6_sendFour 94 = .ok (.bipush 20, 2) := by decide +kernel
theorem dX6_sendFour_96 : decode cX6_sendFour 96 = .ok (.iload 8, 2) := by decide +kernel
theorem dX6_sendFour_98 : decode cX6_sendFour 98 = .ok (.iadd, 1) := by decide +kernel
theorem dX6_sendFour_99 : decode cX6_sendFour 99 = .ok (.invokevirtual 373, 3) := by decide +kernel
theorem dX6_sendFour_102 : decode cX6_sendFour 102 = .ok (.istore 9, 2) := by decide +kernel
theorem dX6_sendFour_104 : decode cX6_sendFour 104 = .ok (.iload 8, 2) := by decide +kernel
theorem dX6_sendFour_106 : decode cX6_sendFour 106 = .ok (.iload 7, 2) := by decide +kernel
theorem dX6_sendFour_108 : decode cX6_sendFour 108 = .ok (.if_icmp .ge 9, 3) := by decide +kernel
theorem dX6_sendFour_111 : decode cX6_sendFour 111 = .ok (.sipush 8192, 3) := by decide +kernel
theorem dX6_sendFour_114 : decode cX6_sendFour 114 = .ok (.goto 4, 3) := by decide +kernel
theorem dX6_sendFour_117 : decode cX6_sendFour 117 = .ok (.iconst 0, 1) := by decide +kernel
theorem dX6_sendFour_118 : decode cX6_sendFour 118 = .ok (.istore 10, 2) := by decide +kernel
theorem dX6_sendFour_120 : decode cX6_sendFour 120 = .ok (.aload_n 0, 1) := by decide +kernel
theorem dX6_sendFour_121 : decode cX6_sendFour 121 = .ok (.aload_n 0, 1) := by decide +kernel
theorem dX6_sendFour_122 : decode cX6_sendFour 122 = .ok (.getfield 24, 3) := by decide +kernel
theorem dX6_sendFour_125 : decode cX6_sendFour 125 = .ok (.getfield 152, 3) := by decide +kernel
theorem dX6_sendFour_128 : decode cX6_sendFour 128 = .ok (.iload 9, 2) := by decide +kernel
theorem dX6_sendFour_130 : decode cX6_sendFour 130 = .ok (.aload_n 1, 1) := by decide +kernel
theorem dX6_sendFour_131 : decode cX6_sendFour 131 = .ok (.bipush 20, 2) := by decide +kernel
theorem dX6_sendFour_133 : decode cX6_sendFour 133 = .ok (.iload 8, 2) := by decide +kernel
theorem dX6_sendFour_135 : decode cX6_sendFour 135 = .ok (.iadd, 1) := by decide +kernel
theorem dX6_sendFour_136 : decode cX6_sendFour 136 = .ok (.iload_n 2, 1) := by decide +kernel
theorem dX6_sendFour_137 : decode cX6_sendFour 137 = .ok (.iload 10, 2) := by decide +kernel
theorem dX6_sendFour_139 : decode cX6_sendFour 139 = .ok (.ior, 1) := by decide +kernel
theorem dX6_sendFour_140 : decode cX6_sendFour 140 = .ok (.iload 5, 2) := by decide +kernel
theorem dX6_sendFour_142 : decode cX6_sendFour 142 = .ok (.bipush 8, 2) := by decide +kernel
theorem dX6_sendFour_144 : decode cX6_sendFour 144 = .ok (.idiv, 1) := by decide +kernel
theorem dX6_sendFour_145 : decode cX6_sendFour 145 = .ok (.iadd, 1) := by decide +kernel
theorem dX6_sendFour_146 : decode cX6_sendFour 146 = .ok (.iload_n 3, 1) := by decide +kernel
theorem dX6_sendFour_147 : decode cX6_sendFour 147 = .ok (.aload_n 1, 1) := by decide +kernel
theorem dX6_sendFour_148 : decode cX6_sendFour 148 = .ok (.getfield 403, 3) := by decide +kernel
theorem dX6_sendFour_151 : decode cX6_sendFour 151 = .ok (.iconst 1, 1) := by decide +kernel
theorem dX6_sendFour_152 : decode cX6_sendFour 152 = .ok (.isub, 1) := by decide +kernel
theorem dX6_sendFour_153 : decode cX6_sendFour 153 = .ok (.invokevirtual 474, 3) := by decide +kernel
theorem dX6_sendFour_156 : decode cX6_sendFour 156 = .ok (.aload_n 0, 1) := by decide +kernel
theorem dX6_sendFour_157 : decode cX6_sendFour 157 = .ok (.getfield 24, 3) := by decide +kernel
theorem dX6_sendFour_160 : decode cX6_sendFour 160 = .ok (.getfield 152, 3) := by decide +kernel
theorem dX6_sendFour_163 : decode cX6_sendFour 163 = .ok (.aload_n 0, 1) := by decide +kernel
theorem dX6_sendFour_164 : decode cX6_sendFour 164 = .ok (.getfield 18, 3) := by decide +kernel
theorem dX6_sendFour_167 : decode cX6_sendFour 167 = .ok (.iload 5, 2) := by decide +kernel
theorem dX6_sendFour_169 : decode cX6_sendFour 169 = .ok (.iload 9, 2) := by decide +kernel
theorem dX6_sendFour_171 : decode cX6_sendFour 171 = .ok (.bipush 20, 2) := by decide +kernel
theorem dX6_sendFour_173 : decode cX6_sendFour 173 = .ok (.iadd, 1) := by decide +kernel
theorem dX6_sendFour_174 : decode cX6_sendFour 174 = .ok (.iload 8, 2) := by decide +kernel
theorem dX6_sendFour_176 : decode cX6_sendFour 176 = .ok (.invokevirtual 276, 3) := by decide +kernel
theorem dX6_sendFour_179 : decode cX6_sendFour 179 = .ok (.iload 8, 2) := by decide +kernel
theorem dX6_sendFour_181 : decode cX6_sendFour 181 = .ok (.iload 7, 2) := by decide +kernel
theorem dX6_sendFour_183 : decode cX6_sendFour 183 = .ok (.if_icmp .ne 6, 3) := by decide +kernel
theorem dX6_sendFour_186 : decode cX6_sendFour 186 = .ok (.goto 16, 3) := by decide +kernel
theorem dX6_sendFour_189 : decode cX6_sendFour 189 = .ok (.iload 5, 2) := by decide +kernel
theorem dX6_sendFour_191 : decode cX6_sendFour 191 = .ok (.iload 8, 2) := by decide +kernel
theorem dX6_sendFour_193 : decode cX6_sendFour 193 = .ok (.iadd, 1) := by decide +kernel
theorem dX6_sendFour_194 : decode cX6_sendFour 194 = .ok (.istore 5, 2) := by decide +kernel
theorem dX6_sendFour_196 : decode cX6_sendFour 196 = .ok (.iinc 6 1, 3) := by decide +kernel
theorem dX6_sendFour_199 : decode cX6_sendFour 199 = .ok (.goto (-162), 3) := by decide +kernel
theorem dX6_sendFour_202 : decode cX6_sendFour 202 = .ok (.return_, 1) := by decide +kernel
theorem dX6_identFor_0 : decode cX6_identFor 0 = .ok (.aload_n 1, 1) := by decide +kernel
theorem dX6_identFor_1 : decode cX6_identFor 1 = .ok (.getfield 420, 3) := by decide +kernel
theorem dX6_identFor_4 : decode cX6_identFor 4 = .ok (.ifCond .eq 8, 3) := by decide +kernel
theorem dX6_identFor_7 : decode cX6_identFor 7 = .ok (.aload_n 1, 1) := by decide +kernel
theorem dX6_identFor_8 : decode cX6_identFor 8 = .ok (.getfield 473, 3) := by decide +kernel
theorem dX6_identFor_11 : decode cX6_identFor 11 = .ok (.ireturn, 1) := by decide +kernel
theorem dX6_identFor_12 : decode cX6_identFor 12 = .ok (.iload_n 2, 1) := by decide +kernel
theorem dX6_identFor_13 : decode cX6_identFor 13 = .ok (.sipush 16384, 3) := by decide +kernel
theorem dX6_identFor_16 : decode cX6_identFor 16 = .ok (.iand, 1) := by decide +kernel
theorem dX6_identFor_17 : decode cX6_identFor 17 = .ok (.ifCond .eq 5, 3) := by decide +kernel
theorem dX6_identFor_20 : decode cX6_identFor 20 = .ok (.iconst 0, 1) := by decide +kernel
theorem dX6_identFor_21 : decode cX6_identFor 21 = .ok (.ireturn, 1) := by decide +kernel
theorem dX6_identFor_22 : decode cX6_identFor 22 = .ok (.aload_n 0, 1) := by decide +kernel
theorem dX6_identFor_23 : decode cX6_identFor 23 = .ok (.aload_n 0, 1) := by decide +kernel
theorem dX6_identFor_24 : decode cX6_identFor 24 = .ok (.getfield 86, 3) := by decide +kernel
theorem dX6_identFor_27 : decode cX6_identFor 27 = .ok (.iconst 1, 1) := by decide +kernel
theorem dX6_identFor_28 : decode cX6_identFor 28 = .ok (.iadd, 1) := by decide +kernel
theorem dX6_identFor_29 : decode cX6_identFor 29 = .ok (.ldc_w 308, 3) := by decide +kernel
theorem dX6_identFor_32 : decode cX6_identFor 32 = .ok (.iand, 1) := by decide +kernel
theorem dX6_identFor_33 : decode cX6_identFor 33 = .ok (.putfield 86, 3) := by decide +kernel
theorem dX6_identFor_36 : decode cX6_identFor 36 = .ok (.aload_n 0, 1) := by decide +kernel
theorem dX6_identFor_37 : decode cX6_identFor 37 = .ok (.getfield 86, 3) := by decide +kernel
theorem dX6_identFor_40 : decode cX6_identFor 40 = .ok (.ireturn, 1) := by decide +kernel
theorem dX6_putFourHeader_0 : decode cX6_putFourHeader 0 = .ok (.aload_n 1, 1) := by decide +kernel
theorem dX6_putFourHeader_1 : decode cX6_putFourHeader 1 = .ok (.iload_n 2, 1) := by decide +kernel
theorem dX6_putFourHeader_2 : decode cX6_putFourHeader 2 = .ok (.iconst 1, 1) := by decide +kernel
theorem dX6_putFourHeader_3 : decode cX6_putFourHeader 3 = .ok (.ldc2_w 482, 3) := by decide +kernel
theorem dX6_putFourHeader_6 : decode cX6_putFourHeader 6 = .ok (.invokevirtual 99, 3) := by decide +kernel
theorem dX6_putFourHeader_9 : decode cX6_putFourHeader 9 = .ok (.aload_n 1, 1) := by decide +kernel
theorem dX6_putFourHeader_10 : decode cX6_putFourHeader 10 = .ok (.iload_n 2, 1) := by decide +kernel
theorem dX6_putFourHeader_11 : decode cX6_putFourHeader 11 = .ok (.iconst 1, 1) := by decide +kernel
theorem dX6_putFourHeader_12 : decode cX6_putFourHeader 12 = .ok (.iadd, 1) := by decide +kernel
theorem dX6_putFourHeader_13 : decode cX6_putFourHeader 13 = .ok (.iconst 1, 1) := by decide +kernel
theorem dX6_putFourHeader_14 : decode cX6_putFourHeader 14 = .ok (.aload_n 0, 1) := by decide +kernel
theorem dX6_putFourHeader_15 : decode cX6_putFourHeader 15 = .ok (.getfield 79, 3) := by decide +kernel
theorem dX6_putFourHeader_18 : decode cX6_putFourHeader 18 = .ok (.ifCond .eq 11, 3) := by decide +kernel
theorem dX6_putFourHeader_21 : decode cX6_putFourHeader 21 = .ok (.aload_n 3, 1) := by decide +kernel
theorem dX6_putFourHeader_22 : decode cX6_putFourHeader 22 = .ok (.getfield 484, 3) := by decide +kernel
theorem dX6_putFourHeader_25 : decode cX6_putFourHeader 25 = .ok (.i2l, 1) := by decide +kernel
theorem dX6_putFourHeader_26 : decode cX6_putFourHeader 26 = .ok (.goto 4, 3) := by decide +kernel
theorem dX6_putFourHeader_29 : decode cX6_putFourHeader 29 = .ok (.lconst 0, 1) := by decide +kernel
theorem dX6_putFourHeader_30 : decode cX6_putFourHeader 30 = .ok (.invokevirtual 99, 3) := by decide +kernel
theorem dX6_putFourHeader_33 : decode cX6_putFourHeader 33 = .ok (.aload_n 1, 1) := by decide +kernel
theorem dX6_putFourHeader_34 : decode cX6_putFourHeader 34 = .ok (.iload_n 2, 1) := by decide +kernel
theorem dX6_putFourHeader_35 : decode cX6_putFourHeader 35 = .ok (.iconst 2, 1) := by decide +kernel
theorem dX6_putFourHeader_36 : decode cX6_putFourHeader 36 = .ok (.iadd, 1) := by decide +kernel
theorem dX6_putFourHeader_37 : decode cX6_putFourHeader 37 = .ok (.iconst 2, 1) := by decide +kernel
theorem dX6_putFourHeader_38 : decode cX6_putFourHeader 38 = .ok (.iload 4, 2) := by decide +kernel
theorem dX6_putFourHeader_40 : decode cX6_putFourHeader 40 = .ok (.i2l, 1) := by decide +kernel
theorem dX6_putFourHeader_41 : decode cX6_putFourHeader 41 = .ok (.invokevirtual 99, 3) := by decide +kernel
theorem dX6_putFourHeader_44 : decode cX6_putFourHeader 44 = .ok (.aload_n 1, 1) := by decide +kernel
theorem dX6_putFourHeader_45 : decode cX6_putFourHeader 45 = .ok (.iload_n 2, 1) := by decide +kernel
theorem dX6_putFourHeader_46 : decode cX6_putFourHeader 46 = .ok (.iconst 4, 1) := by decide +kernel
theorem dX6_putFourHeader_47 : decode cX6_putFourHeader 47 = .ok (.iadd, 1) := by decide +kernel
theorem dX6_putFourHeader_48 : decode cX6_putFourHeader 48 = .ok (.iconst 2, 1) := by decide +kernel
theorem dX6_putFourHeader_49 : decode cX6_putFourHeader 49 = .ok (.iload 6, 2) := by decide +kernel
theorem dX6_putFourHeader_51 : decode cX6_putFourHeader 51 = .ok (.i2l, 1) := by decide +kernel
theorem dX6_putFourHeader_52 : decode cX6_putFourHeader 52 = .ok (.invokevirtual 99, 3) := by decide +kernel
theorem dX6_putFourHeader_55 : decode cX6_putFourHeader 55 = .ok (.aload_n 1, 1) := by decide +kernel
theorem dX6_putFourHeader_56 : decode cX6_putFourHeader 56 = .ok (.iload_n 2, 1) := by decide +kernel
theorem dX6_putFourHeader_57 : decode cX6_putFourHeader 57 = .ok (.bipush 6, 2) := by decide +kernel
theorem dX6_putFourHeader_59 : decode cX6_putFourHeader 59 = .ok (.iadd, 1) := by decide +kernel
theorem dX6_putFourHeader_60 : decode cX6_putFourHeader 60 = .ok (.iconst 2, 1) := by decide +kernel
theorem dX6_putFourHeader_61 : decode cX6_putFourHeader 61 = .ok (.iload 5, 2) := by decide +kernel
theorem dX6_putFourHeader_63 : decode cX6_putFourHeader 63 = .ok (.i2l, 1) := by decide +kernel
theorem dX6_putFourHeader_64 : decode cX6_putFourHeader 64 = .ok (.invokevirtual 99, 3) := by decide +kernel
theorem dX6_putFourHeader_67 : decode cX6_putFourHeader 67 = .ok (.aload_n 1, 1) := by decide +kernel
theorem dX6_putFourHeader_68 : decode cX6_putFourHeader 68 = .ok (.iload_n 2, 1) := by decide +kernel
theorem dX6_putFourHeader_69 : decode cX6_putFourHeader 69 = .ok (.bipush 8, 2) := by decide +kernel
theorem dX6_putFourHeader_71 : decode cX6_putFourHeader 71 = .ok (.iadd, 1) := by decide +kernel
theorem dX6_putFourHeader_72 : decode cX6_putFourHeader 72 = .ok (.iconst 1, 1) := by decide +kernel
theorem dX6_putFourHeader_73 : decode cX6_putFourHeader 73 = .ok (.iload 7, 2) := by decide +kernel
theorem dX6_putFourHeader_75 : decode cX6_putFourHeader 75 = .ok (.i2l, 1) := by decide +kernel
theorem dX6_putFourHeader_76 : decode cX6_putFourHeader 76 = .ok (.invokevirtual 99, 3) := by decide +kernel
theorem dX6_putFourHeader_79 : decode cX6_putFourHeader 79 = .ok (.aload_n 1, 1) := by decide +kernel
theorem dX6_putFourHeader_80 : decode cX6_putFourHeader 80 = .ok (.iload_n 2, 1) := by decide +kernel
theorem dX6_putFourHeader_81 : decode cX6_putFourHeader 81 = .ok (.bipush 9, 2) := by decide +kernel
theorem dX6_putFourHeader_83 : decode cX6_putFourHeader 83 = .ok (.iadd, 1) := by decide +kernel
theorem dX6_putFourHeader_84 : decode cX6_putFourHeader 84 = .ok (.iconst 1, 1) := by decide +kernel
theorem dX6_putFourHeader_85 : decode cX6_putFourHeader 85 = .ok (.aload_n 3, 1) := by decide +kernel
theorem dX6_putFourHeader_86 : decode cX6_putFourHeader 86 = .ok (.getfield 407, 3) := by decide +kernel
theorem dX6_putFourHeader_89 : decode cX6_putFourHeader 89 = .ok (.bipush 58, 2) := by decide +kernel
theorem dX6_putFourHeader_91 : decode cX6_putFourHeader 91 = .ok (.if_icmp .ne 7, 3) := by decide +kernel
theorem dX6_putFourHeader_94 : decode cX6_putFourHeader 94 = .ok (.lconst 1, 1) := by decide +kernel
theorem dX6_putFourHeader_95 : decode cX6_putFourHeader 95 = .ok (.goto 8, 3) := by decide +kernel
theorem dX6_putFourHeader_98 : decode cX6_putFourHeader 98 = .ok (.aload_n 3, 1) := by decide +kernel
theorem dX6_putFourHeader_99 : decode cX6_putFourHeader 99 = .ok (.getfield 407, 3) := by decide +kernel
theorem dX6_putFourHeader_102 : decode cX6_putFourHeader 102 = .ok (.i2l, 1) := by decide +kernel
theorem dX6_putFourHeader_103 : decode cX6_putFourHeader 103 = .ok (.invokevirtual 99, 3) := by decide +kernel
theorem dX6_putFourHeader_106 : decode cX6_putFourHeader 106 = .ok (.aload_n 1, 1) := by decide +kernel
theorem dX6_putFourHeader_107 : decode cX6_putFourHeader 107 = .ok (.iload_n 2, 1) := by decide +kernel
theorem dX6_putFourHeader_108 : decode cX6_putFourHeader 108 = .ok (.bipush 10, 2) := by decide +kernel
theorem dX6_putFourHeader_110 : decode cX6_putFourHeader 110 = .ok (.iadd, 1) := by decide +kernel
theorem dX6_putFourHeader_111 : decode cX6_putFourHeader 111 = .ok (.iconst 2, 1) := by decide +kernel
theorem dX6_putFourHeader_112 : decode cX6_putFourHeader 112 = .ok (.lconst 0, 1) := by decide +kernel
theorem dX6_putFourHeader_113 : decode cX6_putFourHeader 113 = .ok (.invokevirtual 99, 3) := by decide +kernel
theorem dX6_putFourHeader_116 : decode cX6_putFourHeader 116 = .ok (.aload_n 1, 1) := by decide +kernel
theorem dX6_putFourHeader_117 : decode cX6_putFourHeader 117 = .ok (.iload_n 2, 1) := by decide +kernel
theorem dX6_putFourHeader_118 : decode cX6_putFourHeader 118 = .ok (.bipush 12, 2) := by decide +kernel
theorem dX6_putFourHeader_120 : decode cX6_putFourHeader 120 = .ok (.iadd, 1) := by decide +kernel
theorem dX6_putFourHeader_121 : decode cX6_putFourHeader 121 = .ok (.iconst 4, 1) := by decide +kernel
theorem dX6_putFourHeader_122 : decode cX6_putFourHeader 122 = .ok (.aload_n 3, 1) := by decide +kernel
theorem dX6_putFourHeader_123 : decode cX6_putFourHeader 123 = .ok (.getfield 485, 3) := by decide +kernel
theorem dX6_putFourHeader_126 : decode cX6_putFourHeader 126 = .ok (.i2l, 1) := by decide +kernel
theorem dX6_putFourHeader_127 : decode cX6_putFourHeader 127 = .ok (.invokevirtual 99, 3) := by decide +kernel
theorem dX6_putFourHeader_130 : decode cX6_putFourHeader 130 = .ok (.aload_n 1, 1) := by decide +kernel
theorem dX6_putFourHeader_131 : decode cX6_putFourHeader 131 = .ok (.iload_n 2, 1) := by decide +kernel
theorem dX6_putFourHeader_132 : decode cX6_putFourHeader 132 = .ok (.bipush 16, 2) := by decide +kernel
theorem dX6_putFourHeader_134 : decode cX6_putFourHeader 134 = .ok (.iadd, 1) := by decide +kernel
theorem dX6_putFourHeader_135 : decode cX6_putFourHeader 135 = .ok (.iconst 4, 1) := by decide +kernel
theorem dX6_putFourHeader_136 : decode cX6_putFourHeader 136 = .ok (.aload_n 3, 1) := by decide +kernel
theorem dX6_putFourHeader_137 : decode cX6_putFourHeader 137 = .ok (.getfield 486, 3) := by decide +kernel
theorem dX6_putFourHeader_140 : decode cX6_putFourHeader 140 = .ok (.i2l, 1) := by decide +kernel
theorem dX6_putFourHeader_141 : decode cX6_putFourHeader 141 = .ok (.invokevirtual 99, 3) := by decide +kernel
theorem dX6_putFourHeader_144 : decode cX6_putFourHeader 144 = .ok (.aload_n 1, 1) := by decide +kernel
theorem dX6_putFourHeader_145 : decode cX6_putFourHeader 145 = .ok (.iload_n 2, 1) := by decide +kernel
theorem dX6_putFourHeader_146 : decode cX6_putFourHeader 146 = .ok (.bipush 10, 2) := by decide +kernel
theorem dX6_putFourHeader_148 : decode cX6_putFourHeader 148 = .ok (.iadd, 1) := by decide +kernel
theorem dX6_putFourHeader_149 : decode cX6_putFourHeader 149 = .ok (.iconst 2, 1) := by decide +kernel
theorem dX6_putFourHeader_150 : decode cX6_putFourHeader 150 = .ok (.aload_n 1, 1) := by decide +kernel
theorem dX6_putFourHeader_151 : decode cX6_putFourHeader 151 = .ok (.iload_n 2, 1) := by decide +kernel
theorem dX6_putFourHeader_152 : decode cX6_putFourHeader 152 = .ok (.iload_n 2, 1) := by decide +kernel
theorem dX6_putFourHeader_153 : decode cX6_putFourHeader 153 = .ok (.bipush 20, 2) := by decide +kernel
theorem dX6_putFourHeader_155 : decode cX6_putFourHeader 155 = .ok (.iadd, 1) := by decide +kernel
theorem dX6_putFourHeader_156 : decode cX6_putFourHeader 156 = .ok (.invokevirtual 163, 3) := by decide +kernel
theorem dX6_putFourHeader_159 : decode cX6_putFourHeader 159 = .ok (.invokestatic 167, 3) := by decide +kernel
theorem dX6_putFourHeader_162 : decode cX6_putFourHeader 162 = .ok (.i2l, 1) := by decide +kernel
theorem dX6_putFourHeader_163 : decode cX6_putFourHeader 163 = .ok (.invokevirtual 99, 3) := by decide +kernel
theorem dX6_putFourHeader_166 : decode cX6_putFourHeader 166 = .ok (.return_, 1) := by decide +kernel
theorem dX6_answerSix_0 : decode cX6_answerSix 0 = .ok (.aload_n 1, 1) := by decide +kernel
theorem dX6_answerSix_1 : decode cX6_answerSix 1 = .ok (.getfield 433, 3) := by decide +kernel
theorem dX6_answerSix_4 : decode cX6_answerSix 4 = .ok (.ifCond .le 24, 3) := by decide +kernel
theorem dX6_answerSix_7 : decode cX6_answerSix 7 = .ok (.aload_n 0, 1) := by decide +kernel
theorem dX6_answerSix_8 : decode cX6_answerSix 8 = .ok (.getfield 14, 3) := by decide +kernel
theorem dX6_answerSix_11 : decode cX6_answerSix 11 = .ok (.aload_n 1, 1) := by decide +kernel
theorem dX6_answerSix_12 : decode cX6_answerSix 12 = .ok (.getfield 408, 3) := by decide +kernel
theorem dX6_answerSix_15 : decode cX6_answerSix 15 = .ok (.invokevirtual 158, 3) := by decide +kernel
theorem dX6_answerSix_18 : decode cX6_answerSix 18 = .ok (.invokestatic 430, 3) := by decide +kernel
theorem dX6_answerSix_21 : decode cX6_answerSix 21 = .ok (.ifCond .eq 7, 3) := by decide +kernel
theorem dX6_answerSix_24 : decode cX6_answerSix 24 = .ok (.iconst 1, 1) := by decide +kernel
theorem dX6_answerSix_25 : decode cX6_answerSix 25 = .ok (.goto 4, 3) := by decide +kernel
theorem dX6_answerSix_28 : decode cX6_answerSix 28 = .ok (.iconst 0, 1) := by decide +kernel
theorem dX6_answerSix_29 : decode cX6_answerSix 29 = .ok (.istore 4, 2) := by decide +kernel
theorem dX6_answerSix_31 : decode cX6_answerSix 31 = .ok (.aload_n 1, 1) := by decide +kernel
theorem dX6_answerSix_32 : decode cX6_answerSix 32 = .ok (.getfield 487, 3) := by decide +kernel
theorem dX6_answerSix_35 : decode cX6_answerSix 35 = .ok (.ifCond .ne 17, 3) := by decide +kernel
theorem dX6_answerSix_38 : decode cX6_answerSix 38 = .ok (.aload_n 1, 1) := by decide +kernel
theorem dX6_answerSix_39 : decode cX6_answerSix 39 = .ok (.getfield 407, 3) := by decide +kernel
theorem dX6_answerSix_42 : decode cX6_answerSix 42 = .ok (.bipush 58, 2) := by decide +kernel
theorem dX6_answerSix_44 : decode cX6_answerSix 44 = .ok (.if_icmp .ne 11, 3) := by decide +kernel
theorem dX6_answerSix_47 : decode cX6_answerSix 47 = .ok (.iload 4, 2) := by decide +kernel
theorem dX6_answerSix_49 : decode cX6_answerSix 49 = .ok (.ifCond .ne 6, 3) := by decide +kernel
theorem dX6_answerSix_52 : decode cX6_answerSix 52 = .ok (.bipush 9, 2) := by decide +kernel
theorem dX6_answerSix_54 : decode cX6_answerSix 54 = .ok (.ireturn, 1) := by decide +kernel
theorem dX6_answerSix_55 : decode cX6_answerSix 55 = .ok (.aload_n 1, 1) := by decide +kernel
theorem dX6_answerSix_56 : decode cX6_answerSix 56 = .ok (.getfield 408, 3) := by decide +kernel
theorem dX6_answerSix_59 : decode cX6_answerSix 59 = .ok (.aload_n 1, 1) := by decide +kernel
theorem dX6_answerSix_60 : decode cX6_answerSix 60 = .ok (.getfield 433, 3) := by decide +kernel
theorem dX6_answerSix_63 : decode cX6_answerSix 63 = .ok (.iadd, 1) := by decide +kernel
theorem dX6_answerSix_64 : decode cX6_answerSix 64 = .ok (.sipush 1232, 3) := by decide +kernel
theorem dX6_answerSix_67 : decode cX6_answerSix 67 = .ok (.invokestatic 329, 3) := by decide +kernel
theorem dX6_answerSix_70 : decode cX6_answerSix 70 = .ok (.istore 5, 2) := by decide +kernel
theorem dX6_answerSix_72 : decode cX6_answerSix 72 = .ok (.bipush 8, 2) := by decide +kernel
theorem dX6_answerSix_74 : decode cX6_answerSix 74 = .ok (.iload 5, 2) := by decide +kernel
theorem dX6_answerSix_76 : decode cX6_answerSix 76 = .ok (.iadd, 1) := by decide +kernel
theorem dX6_answerSix_77 : decode cX6_answerSix 77 = .ok (.istore 6, 2) := by decide +kernel
theorem dX6_answerSix_79 : decode cX6_answerSix 79 = .ok (.aload_n 0, 1) := by decide +kernel
theorem dX6_answerSix_80 : decode cX6_answerSix 80 = .ok (.getfield 24, 3) := by decide +kernel
theorem dX6_answerSix_83 : decode cX6_answerSix 83 = .ok (.getfield 152, 3) := by decide +kernel
theorem dX6_answerSix_86 : decode cX6_answerSix 86 = .ok (.astore 7, 2) := by decide +kernel
theorem dX6_answerSix_88 : decode cX6_answerSix 88 = .ok (.aload_n 0, 1) := by decide +kernel
theorem dX6_answerSix_89 : decode cX6_answerSix 89 = .ok (.getfield 24, 3) := by decide +kernel
theorem dX6_answerSix_92 : decode cX6_answerSix 92 = .ok (.bipush 40, 2) := by decide +kernel
theorem dX6_answerSix_94 : decode cX6_answerSix 94 = .ok (.iload 6, 2) := by decide +kernel
theorem dX6_answerSix_96 : decode cX6_answerSix 96 = .ok (.iadd, 1) := by decide +kernel
theorem dX6_answerSix_97 : decode cX6_answerSix 97 = .ok (.invokevirtual 373, 3) := by decide +kernel
theorem dX6_answerSix_100 : decode cX6_answerSix 100 = .ok (.istore 8, 2) := by decide +kernel
theorem dX6_answerSix_102 : decode cX6_answerSix 102 = .ok (.aload 7, 2) := by decide +kernel
theorem dX6_answerSix_104 : decode cX6_answerSix 104 = .ok (.iload 8, 2) := by decide +kernel
theorem dX6_answerSix_106 : decode cX6_answerSix 106 = .ok (.iconst 4, 1) := by decide +kernel
theorem dX6_answerSix_107 : decode cX6_answerSix 107 = .ok (.ldc2_w 376, 3) := by decide +kernel
theorem dX6_answerSix_110 : decode cX6_answerSix 110 = .ok (.invokevirtual 99, 3) := by decide +kernel
theorem dX6_answerSix_113 : decode cX6_answerSix 113 = .ok (.aload 7, 2) := by decide +kernel
theorem dX6_answerSix_115 : decode cX6_answerSix 115 = .ok (.iload 8, 2) := by decide +kernel
theorem dX6_answerSix_117 : decode cX6_answerSix 117 = .ok (.iconst 4, 1) := by decide +kernel
theorem dX6_answerSix_118 : decode cX6_answerSix 118 = .ok (.iadd, 1) := by decide +kernel
theorem dX6_answerSix_119 : decode cX6_answerSix 119 = .ok (.iconst 2, 1) := by decide +kernel
theorem dX6_answerSix_120 : decode cX6_answerSix 120 = .ok (.iload 6, 2) := by decide +kernel
theorem dX6_answerSix_122 : decode cX6_answerSix 122 = .ok (.i2l, 1) := by decide +kernel
theorem dX6_answerSix_123 : decode cX6_answerSix 123 = .ok (.invokevirtual 99, 3) := by decide +kernel
theorem dX6_answerSix_126 : decode cX6_answerSix 126 = .ok (.aload 7, 2) := by decide +kernel
theorem dX6_answerSix_128 : decode cX6_answerSix 128 = .ok (.iload 8, 2) := by decide +kernel
theorem dX6_answerSix_130 : decode cX6_answerSix 130 = .ok (.bipush 6, 2) := by decide +kernel
theorem dX6_answerSix_132 : decode cX6_answerSix 132 = .ok (.iadd, 1) := by decide +kernel
theorem dX6_answerSix_133 : decode cX6_answerSix 133 = .ok (.iconst 1, 1) := by decide +kernel
theorem dX6_answerSix_134 : decode cX6_answerSix 134 = .ok (.ldc2_w 289, 3) := by decide +kernel
theorem dX6_answerSix_137 : decode cX6_answerSix 137 = .ok (.invokevirtual 99, 3) := by decide +kernel
theorem dX6_answerSix_140 : decode cX6_answerSix 140 = .ok (.aload 7, 2) := by decide +kernel
theorem dX6_answerSix_142 : decode cX6_answerSix 142 = .ok (.iload 8, 2) := by decide +kernel
theorem dX6_answerSix_144 : decode cX6_answerSix 144 = .ok (.bipush 7, 2) := by decide +kernel
theorem dX6_answerSix_146 : decode cX6_answerSix 146 = .ok (.iadd, 1) := by decide +kernel
theorem dX6_answerSix_147 : decode cX6_answerSix 147 = .ok (.iconst 1, 1) := by decide +kernel
theorem dX6_answerSix_148 : decode cX6_answerSix 148 = .ok (.ldc2_w 488, 3) := by decide +kernel
theorem dX6_answerSix_151 : decode cX6_answerSix 151 = .ok (.invokevirtual 99, 3) := by decide +kernel
theorem dX6_answerSix_154 : decode cX6_answerSix 154 = .ok (.aload 7, 2) := by decide +kernel
theorem dX6_answerSix_156 : decode cX6_answerSix 156 = .ok (.iload 8, 2) := by decide +kernel
theorem dX6_answerSix_158 : decode cX6_answerSix 158 = .ok (.bipush 8, 2) := by decide +kernel
theorem dX6_answerSix_160 : decode cX6_answerSix 160 = .ok (.iadd, 1) := by decide +kernel
theorem dX6_answerSix_161 : decode cX6_answerSix 161 = .ok (.bipush 8, 2) := by decide +kernel
theorem dX6_answerSix_163 : decode cX6_answerSix 163 = .ok (.aload_n 0, 1) := by decide +kernel
theorem dX6_answerSix_164 : decode cX6_answerSix 164 = .ok (.getfield 66, 3) := by decide +kernel
theorem dX6_answerSix_167 : decode cX6_answerSix 167 = .ok (.invokevirtual 99, 3) := by decide +kernel
theorem dX6_answerSix_170 : decode cX6_answerSix 170 = .ok (.aload 7, 2) := by decide +kernel
theorem dX6_answerSix_172 : decode cX6_answerSix 172 = .ok (.iload 8, 2) := by decide +kernel
theorem dX6_answerSix_174 : decode cX6_answerSix 174 = .ok (.bipush 16, 2) := by decide +kernel
theorem dX6_answerSix_176 : decode cX6_answerSix 176 = .ok (.iadd, 1) := by decide +kernel
theorem dX6_answerSix_177 : decode cX6_answerSix 177 = .ok (.bipush 8, 2) := by decide +kernel
theorem dX6_answerSix_179 : decode cX6_answerSix 179 = .ok (.aload_n 0, 1) := by decide +kernel
theorem dX6_answerSix_180 : decode cX6_answerSix 180 = .ok (.getfield 70, 3) := by decide +kernel
theorem dX6_answerSix_183 : decode cX6_answerSix 183 = .ok (.invokevirtual 99, 3) := by decide +kernel
theorem dX6_answerSix_186 : decode cX6_answerSix 186 = .ok (.aload 7, 2) := by decide +kernel
theorem dX6_answerSix_188 : decode cX6_answerSix 188 = .ok (.aload_n 0, 1) := by decide +kernel
theorem dX6_answerSix_189 : decode cX6_answerSix 189 = .ok (.getfield 14, 3) := by decide +kernel
theorem dX6_answerSix_192 : decode cX6_answerSix 192 = .ok (.bipush 8, 2) := by decide +kernel
theorem dX6_answerSix_194 : decode cX6_answerSix 194 = .ok (.iload 8, 2) := by decide +kernel
theorem dX6_answerSix_196 : decode cX6_answerSix 196 = .ok (.bipush 24, 2) := by decide +kernel
theorem dX6_answerSix_198 : decode cX6_answerSix 198 = .ok (.iadd, 1) := by decide +kernel
theorem dX6_answerSix_199 : decode cX6_answerSix 199 = .ok (.bipush 16, 2) := by decide +kernel
theorem dX6_answerSix_201 : decode cX6_answerSix 201 = .ok (.invokevirtual 276, 3) := by decide +kernel
theorem dX6_answerSix_204 : decode cX6_answerSix 204 = .ok (.iload 8, 2) := by decide +kernel
theorem dX6_answerSix_206 : decode cX6_answerSix 206 = .ok (.bipush 40, 2) := by decide +kernel
theorem dX6_answerSix_208 : decode cX6_answerSix 208 = .ok (.iadd, 1) := by decide +kernel
theorem dX6_answerSix_209 : decode cX6_answerSix 209 = .ok (.istore 9, 2) := by decide +kernel
theorem dX6_answerSix_211 : decode cX6_answerSix 211 = .ok (.aload 7, 2) := by decide +kernel
theorem dX6_answerSix_213 : decode cX6_answerSix 213 = .ok (.iload 9, 2) := by decide +kernel
theorem dX6_answerSix_215 : decode cX6_answerSix 215 = .ok (.iconst 4, 1) := by decide +kernel
theorem dX6_answerSix_216 : decode cX6_answerSix 216 = .ok (.iload_n 2, 1) := by decide +kernel
theorem dX6_answerSix_217 : decode cX6_answerSix 217 = .ok (.i2l, 1) := by decide +kernel
theorem dX6_answerSix_218 : decode cX6_answerSix 218 = .ok (.bipush 16, 2) := by decide +kernel
theorem dX6_answerSix_220 : decode cX6_answerSix 220 = .ok (.lshl, 1) := by decide +kernel
theorem dX6_answerSix_221 : decode cX6_answerSix 221 = .ok (.invokevirtual 99, 3) := by decide +kernel
theorem dX6_answerSix_224 : decode cX6_answerSix 224 = .ok (.aload 7, 2) := by decide +kernel
theorem dX6_answerSix_226 : decode cX6_answerSix 226 = .ok (.iload 9, 2) := by decide +kernel
theorem dX6_answerSix_228 : decode cX6_answerSix 228 = .ok (.iconst 4, 1) := by decide +kernel
theorem dX6_answerSix_229 : decode cX6_answerSix 229 = .ok (.iadd, 1) := by decide +kernel
theorem dX6_answerSix_230 : decode cX6_answerSix 230 = .ok (.iconst 4, 1) := by decide +kernel
theorem dX6_answerSix_231 : decode cX6_answerSix 231 = .ok (.iload_n 3, 1) := by decide +kernel
theorem dX6_answerSix_232 : decode cX6_answerSix 232 = .ok (.i2l, 1) := by decide +kernel
theorem dX6_answerSix_233 : decode cX6_answerSix 233 = .ok (.invokevirtual 99, 3) := by decide +kernel
theorem dX6_answerSix_236 : decode cX6_answerSix 236 = .ok (.aload 7, 2) := by decide +kernel
theorem dX6_answerSix_238 : decode cX6_answerSix 238 = .ok (.aload_n 0, 1) := by decide +kernel
theorem dX6_answerSix_239 : decode cX6_answerSix 239 = .ok (.getfield 14, 3) := by decide +kernel
theorem dX6_answerSix_242 : decode cX6_answerSix 242 = .ok (.iconst 0, 1) := by decide +kernel
theorem dX6_answerSix_243 : decode cX6_answerSix 243 = .ok (.iload 9, 2) := by decide +kernel
theorem dX6_answerSix_245 : decode cX6_answerSix 245 = .ok (.bipush 8, 2) := by decide +kernel
theorem dX6_answerSix_247 : decode cX6_answerSix 247 = .ok (.iadd, 1) := by decide +kernel
theorem dX6_answerSix_248 : decode cX6_answerSix 248 = .ok (.iload 5, 2) := by decide +kernel
theorem dX6_answerSix_250 : decode cX6_answerSix 250 = .ok (.invokevirtual 276, 3) := by decide +kernel
theorem dX6_answerSix_253 : decode cX6_answerSix 253 = .ok (.aload 7, 2) := by decide +kernel
theorem dX6_answerSix_255 : decode cX6_answerSix 255 = .ok (.iload 8, 2) := by decide +kernel
theorem dX6_answerSix_257 : decode cX6_answerSix 257 = .ok (.bipush 8, 2) := by decide +kernel
theorem dX6_answerSix_259 : decode cX6_answerSix 259 = .ok (.iadd, 1) := by decide +kernel
theorem dX6_answerSix_260 : decode cX6_answerSix 260 = .ok (.iload 9, 2) := by decide +kernel
theorem dX6_answerSix_262 : decode cX6_answerSix 262 = .ok (.invokevirtual 163, 3) := by decide +kernel
theorem dX6_answerSix_265 : decode cX6_answerSix 265 = .ok (.iload 6, 2) := by decide +kernel
theorem dX6_answerSix_267 : decode cX6_answerSix 267 = .ok (.i2l, 1) := by decide +kernel
theorem dX6_answerSix_268 : decode cX6_answerSix 268 = .ok (.ladd, 1) := by decide +kernel
theorem dX6_answerSix_269 : decode cX6_answerSix 269 = .ok (.ldc2_w 289, 3) := by decide +kernel
theorem dX6_answerSix_272 : decode cX6_answerSix 272 = .ok (.ladd, 1) := by decide +kernel
theorem dX6_answerSix_273 : decode cX6_answerSix 273 = .ok (.lstore 10, 2) := by decide +kernel
theorem dX6_answerSix_275 : decode cX6_answerSix 275 = .ok (.aload 7, 2) := by decide +kernel
theorem dX6_answerSix_277 : decode cX6_answerSix 277 = .ok (.iload 9, 2) := by decide +kernel
theorem dX6_answerSix_279 : decode cX6_answerSix 279 = .ok (.iconst 2, 1) := by decide +kernel
theorem dX6_answerSix_280 : decode cX6_answerSix 280 = .ok (.iadd, 1) := by decide +kernel
theorem dX6_answerSix_281 : decode cX6_answerSix 281 = .ok (.iconst 2, 1) := by decide +kernel
theorem dX6_answerSix_282 : decode cX6_answerSix 282 = .ok (.lload 10, 2) := by decide +kernel
theorem dX6_answerSix_284 : decode cX6_answerSix 284 = .ok (.aload 7, 2) := by decide +kernel
theorem dX6_answerSix_286 : decode cX6_answerSix 286 = .ok (.iload 9, 2) := by decide +kernel
theorem dX6_answerSix_288 : decode cX6_answerSix 288 = .ok (.iload 9, 2) := by decide +kernel
theorem dX6_answerSix_290 : decode cX6_answerSix 290 = .ok (.iload 6, 2) := by decide +kernel
theorem dX6_answerSix_292 : decode cX6_answerSix 292 = .ok (.iadd, 1) := by decide +kernel
theorem dX6_answerSix_293 : decode cX6_answerSix 293 = .ok (.invokevirtual 163, 3) := by decide +kernel
theorem dX6_answerSix_296 : decode cX6_answerSix 296 = .ok (.ladd, 1) := by decide +kernel
theorem dX6_answerSix_297 : decode cX6_answerSix 297 = .ok (.invokestatic 167, 3) := by decide +kernel
theorem dX6_answerSix_300 : decode cX6_answerSix 300 = .ok (.i2l, 1) := by decide +kernel
theorem dX6_answerSix_301 : decode cX6_answerSix 301 = .ok (.invokevirtual 99, 3) := by decide +kernel
theorem dX6_answerSix_304 : decode cX6_answerSix 304 = .ok (.bipush 10, 2) := by decide +kernel
theorem dX6_answerSix_306 : decode cX6_answerSix 306 = .ok (.ireturn, 1) := by decide +kernel
theorem dX6_folded_0 : decode cX6_folded 0 = .ok (.lload_n 0, 1) := by decide +kernel
theorem dX6_folded_1 : decode cX6_folded 1 = .ok (.lstore_n 2, 1) := by decide +kernel
theorem dX6_folded_2 : decode cX6_folded 2 = .ok (.iconst 0, 1) := by decide +kernel
theorem dX6_folded_3 : decode cX6_folded 3 = .ok (.istore 4, 2) := by decide +kernel
theorem dX6_folded_5 : decode cX6_folded 5 = .ok (.iload 4, 2) := by decide +kernel
theorem dX6_folded_7 : decode cX6_folded 7 = .ok (.bipush 8, 2) := by decide +kernel
theorem dX6_folded_9 : decode cX6_folded 9 = .ok (.if_icmp .ge 28, 3) := by decide +kernel
theorem dX6_folded_12 : decode cX6_folded 12 = .ok (.lload_n 2, 1) := by decide +kernel
theorem dX6_folded_13 : decode cX6_folded 13 = .ok (.ldc2_w 287, 3) := by decide +kernel
theorem dX6_folded_16 : decode cX6_folded 16 = .ok (.lcmp, 1) := by decide +kernel
theorem dX6_folded_17 : decode cX6_folded 17 = .ok (.ifCond .le 20, 3) := by decide +kernel
theorem dX6_folded_20 : decode cX6_folded 20 = .ok (.lload_n 2, 1) := by decide +kernel
theorem dX6_folded_21 : decode cX6_folded 21 = .ok (.ldc2_w 287, 3) := by decide +kernel
theorem dX6_folded_24 : decode cX6_folded 24 = .ok (.land, 1) := by decide +kernel
theorem dX6_folded_25 : decode cX6_folded 25 = .ok (.lload_n 2, 1) := by decide +kernel
theorem dX6_folded_26 : decode cX6_folded 26 = .ok (.bipush 16, 2) := by decide +kernel
theorem dX6_folded_28 : decode cX6_folded 28 = .ok (.lushr, 1) := by decide +kernel
theorem dX6_folded_29 : decode cX6_folded 29 = .ok (.ladd, 1) := by decide +kernel
theorem dX6_folded_30 : decode cX6_folded 30 = .ok (.lstore_n 2, 1) := by decide +kernel
theorem dX6_folded_31 : decode cX6_folded 31 = .ok (.iinc 4 1, 3) := by decide +kernel
theorem dX6_folded_34 : decode cX6_folded 34 = .ok (.goto (-29), 3) := by decide +kernel
theorem dX6_folded_37 : decode cX6_folded 37 = .ok (.lload_n 2, 1) := by decide +kernel
theorem dX6_folded_38 : decode cX6_folded 38 = .ok (.l2i, 1) := by decide +kernel
theorem dX6_folded_39 : decode cX6_folded 39 = .ok (.ireturn, 1) := by decide +kernel
theorem dX6_checksum_0 : decode cX6_checksum 0 = .ok (.ldc_w 308, 3) := by decide +kernel
theorem dX6_checksum_3 : decode cX6_checksum 3 = .ok (.lload_n 0, 1) := by decide +kernel
theorem dX6_checksum_4 : decode cX6_checksum 4 = .ok (.invokestatic 305, 3) := by decide +kernel
theorem dX6_checksum_7 : decode cX6_checksum 7 = .ok (.isub, 1) := by decide +kernel
theorem dX6_checksum_8 : decode cX6_checksum 8 = .ok (.ireturn, 1) := by decide +kernel
theorem dX6_adjusted_0 : decode cX6_adjusted 0 = .ok (.ldc_w 308, 3) := by decide +kernel
theorem dX6_adjusted_3 : decode cX6_adjusted 3 = .ok (.ldc_w 308, 3) := by decide +kernel
theorem dX6_adjusted_6 : decode cX6_adjusted 6 = .ok (.iload_n 0, 1) := by decide +kernel
theorem dX6_adjusted_7 : decode cX6_adjusted 7 = .ok (.isub, 1) := by decide +kernel
theorem dX6_adjusted_8 : decode cX6_adjusted 8 = .ok (.i2l, 1) := by decide +kernel
theorem dX6_adjusted_9 : decode cX6_adjusted 9 = .ok (.ldc2_w 287, 3) := by decide +kernel
theorem dX6_adjusted_12 : decode cX6_adjusted 12 = .ok (.iload_n 3, 1) := by decide +kernel
theorem dX6_adjusted_13 : decode cX6_adjusted 13 = .ok (.i2l, 1) := by decide +kernel
theorem dX6_adjusted_14 : decode cX6_adjusted 14 = .ok (.lmul, 1) := by decide +kernel
theorem dX6_adjusted_15 : decode cX6_adjusted 15 = .ok (.lload_n 1, 1) := by decide +kernel
theorem dX6_adjusted_16 : decode cX6_adjusted 16 = .ok (.lsub, 1) := by decide +kernel
theorem dX6_adjusted_17 : decode cX6_adjusted 17 = .ok (.ladd, 1) := by decide +kernel
theorem dX6_adjusted_18 : decode cX6_adjusted 18 = .ok (.lload 4, 2) := by decide +kernel
theorem dX6_adjusted_20 : decode cX6_adjusted 20 = .ok (.ladd, 1) := by decide +kernel
theorem dX6_adjusted_21 : decode cX6_adjusted 21 = .ok (.invokestatic 305, 3) := by decide +kernel
theorem dX6_adjusted_24 : decode cX6_adjusted 24 = .ok (.isub, 1) := by decide +kernel
theorem dX6_adjusted_25 : decode cX6_adjusted 25 = .ok (.ireturn, 1) := by decide +kernel
theorem dX6_wordsOf_0 : decode cX6_wordsOf 0 = .ok (.lload_n 0, 1) := by decide +kernel
theorem dX6_wordsOf_1 : decode cX6_wordsOf 1 = .ok (.bipush 48, 2) := by decide +kernel
theorem dX6_wordsOf_3 : decode cX6_wordsOf 3 = .ok (.lushr, 1) := by decide +kernel
theorem dX6_wordsOf_4 : decode cX6_wordsOf 4 = .ok (.lload_n 0, 1) := by decide +kernel
theorem dX6_wordsOf_5 : decode cX6_wordsOf 5 = .ok (.bipush 32, 2) := by decide +kernel
theorem dX6_wordsOf_7 : decode cX6_wordsOf 7 = .ok (.lushr, 1) := by decide +kernel
theorem dX6_wordsOf_8 : decode cX6_wordsOf 8 = .ok (.ldc2_w 287, 3) := by decide +kernel
theorem dX6_wordsOf_11 : decode cX6_wordsOf 11 = .ok (.land, 1) := by decide +kernel
theorem dX6_wordsOf_12 : decode cX6_wordsOf 12 = .ok (.ladd, 1) := by decide +kernel
theorem dX6_wordsOf_13 : decode cX6_wordsOf 13 = .ok (.lload_n 0, 1) := by decide +kernel
theorem dX6_wordsOf_14 : decode cX6_wordsOf 14 = .ok (.bipush 16, 2) := by decide +kernel
theorem dX6_wordsOf_16 : decode cX6_wordsOf 16 = .ok (.lushr, 1) := by decide +kernel
theorem dX6_wordsOf_17 : decode cX6_wordsOf 17 = .ok (.ldc2_w 287, 3) := by decide +kernel
theorem dX6_wordsOf_20 : decode cX6_wordsOf 20 = .ok (.land, 1) := by decide +kernel
theorem dX6_wordsOf_21 : decode cX6_wordsOf 21 = .ok (.ladd, 1) := by decide +kernel
theorem dX6_wordsOf_22 : decode cX6_wordsOf 22 = .ok (.lload_n 0, 1) := by decide +kernel
theorem dX6_wordsOf_23 : decode cX6_wordsOf 23 = .ok (.ldc2_w 287, 3) := by decide +kernel
theorem dX6_wordsOf_26 : decode cX6_wordsOf 26 = .ok (.land, 1) := by decide +kernel
theorem dX6_wordsOf_27 : decode cX6_wordsOf 27 = .ok (.ladd, 1) := by decide +kernel
theorem dX6_wordsOf_28 : decode cX6_wordsOf 28 = .ok (.lreturn, 1) := by decide +kernel
theorem dX6_imageWords_0 : decode cX6_imageWords 0 = .ok (.aload_n 0, 1) := by decide +kernel
theorem dX6_imageWords_1 : decode cX6_imageWords 1 = .ok (.getfield 31, 3) := by decide +kernel
theorem dX6_imageWords_4 : decode cX6_imageWords 4 = .ok (.aload_n 1, 1) := by decide +kernel
theorem dX6_imageWords_5 : decode cX6_imageWords 5 = .ok (.getfield 190, 3) := by decide +kernel
theorem dX6_imageWords_8 : decode cX6_imageWords 8 = .ok (.invokevirtual 179, 3) := by decide +kernel
theorem dX6_imageWords_11 : decode cX6_imageWords 11 = .ok (.invokestatic 490, 3) := by decide +kernel
theorem dX6_imageWords_14 : decode cX6_imageWords 14 = .ok (.aload_n 0, 1) := by decide +kernel
theorem dX6_imageWords_15 : decode cX6_imageWords 15 = .ok (.getfield 31, 3) := by decide +kernel
theorem dX6_imageWords_18 : decode cX6_imageWords 18 = .ok (.aload_n 1, 1) := by decide +kernel
theorem dX6_imageWords_19 : decode cX6_imageWords 19 = .ok (.getfield 190, 3) := by decide +kernel
theorem dX6_imageWords_22 : decode cX6_imageWords 22 = .ok (.invokevirtual 175, 3) := by decide +kernel
theorem dX6_imageWords_25 : decode cX6_imageWords 25 = .ok (.invokestatic 490, 3) := by decide +kernel
theorem dX6_imageWords_28 : decode cX6_imageWords 28 = .ok (.ladd, 1) := by decide +kernel
theorem dX6_imageWords_29 : decode cX6_imageWords 29 = .ok (.aload_n 0, 1) := by decide +kernel
theorem dX6_imageWords_30 : decode cX6_imageWords 30 = .ok (.getfield 31, 3) := by decide +kernel
theorem dX6_imageWords_33 : decode cX6_imageWords 33 = .ok (.aload_n 1, 1) := by decide +kernel
theorem dX6_imageWords_34 : decode cX6_imageWords 34 = .ok (.getfield 193, 3) := by decide +kernel
theorem dX6_imageWords_37 : decode cX6_imageWords 37 = .ok (.invokevirtual 179, 3) := by decide +kernel
theorem dX6_imageWords_40 : decode cX6_imageWords 40 = .ok (.invokestatic 490, 3) := by decide +kernel
theorem dX6_imageWords_43 : decode cX6_imageWords 43 = .ok (.ladd, 1) := by decide +kernel
theorem dX6_imageWords_44 : decode cX6_imageWords 44 = .ok (.aload_n 0, 1) := by decide +kernel
theorem dX6_imageWords_45 : decode cX6_imageWords 45 = .ok (.getfield 31, 3) := by decide +kernel
theorem dX6_imageWords_48 : decode cX6_imageWords 48 = .ok (.aload_n 1, 1) := by decide +kernel
theorem dX6_imageWords_49 : decode cX6_imageWords 49 = .ok (.getfield 193, 3) := by decide +kernel
theorem dX6_imageWords_52 : decode cX6_imageWords 52 = .ok (.invokevirtual 175, 3) := by decide +kernel
theorem dX6_imageWords_55 : decode cX6_imageWords 55 = .ok (.invokestatic 490, 3) := by decide +kernel
theorem dX6_imageWords_58 : decode cX6_imageWords 58 = .ok (.ladd, 1) := by decide +kernel
theorem dX6_imageWords_59 : decode cX6_imageWords 59 = .ok (.lreturn, 1) := by decide +kernel
theorem dX6_entry_0 : decode cX6_entry 0 = .ok (.lload_n 1, 1) := by decide +kernel
theorem dX6_entry_1 : decode cX6_entry 1 = .ok (.lconst 0, 1) := by decide +kernel
theorem dX6_entry_2 : decode cX6_entry 2 = .ok (.lcmp, 1) := by decide +kernel
theorem dX6_entry_3 : decode cX6_entry 3 = .ok (.ifCond .lt 18, 3) := by decide +kernel
theorem dX6_entry_6 : decode cX6_entry 6 = .ok (.lload_n 1, 1) := by decide +kernel
theorem dX6_entry_7 : decode cX6_entry 7 = .ok (.aload_n 0, 1) := by decide +kernel
theorem dX6_entry_8 : decode cX6_entry 8 = .ok (.arraylength, 1) := by decide +kernel
theorem dX6_entry_9 : decode cX6_entry 9 = .ok (.i2l, 1) := by decide +kernel
theorem dX6_entry_10 : decode cX6_entry 10 = .ok (.lcmp, 1) := by decide +kernel
theorem dX6_entry_11 : decode cX6_entry 11 = .ok (.ifCond .ge 10, 3) := by decide +kernel
theorem dX6_entry_14 : decode cX6_entry 14 = .ok (.aload_n 0, 1) := by decide +kernel
theorem dX6_entry_15 : decode cX6_entry 15 = .ok (.lload_n 1, 1) := by decide +kernel
theorem dX6_entry_16 : decode cX6_entry 16 = .ok (.l2i, 1) := by decide +kernel
theorem dX6_entry_17 : decode cX6_entry 17 = .ok (.iaload, 1) := by decide +kernel
theorem dX6_entry_18 : decode cX6_entry 18 = .ok (.goto 4, 3) := by decide +kernel
theorem dX6_entry_21 : decode cX6_entry 21 = .ok (.iconst (-1), 1) := by decide +kernel
theorem dX6_entry_22 : decode cX6_entry 22 = .ok (.ireturn, 1) := by decide +kernel
theorem dX7_init_0 : decode cX7_init 0 = .ok (.aload_n 0, 1) := by decide +kernel
theorem dX7_init_1 : decode cX7_init 1 = .ok (.invokespecial 1, 3) := by decide +kernel
theorem dX7_init_4 : decode cX7_init 4 = .ok (.aload_n 0, 1) := by decide +kernel
theorem dX7_init_5 : decode cX7_init 5 = .ok (.sipush 2400, 3) := by decide +kernel
theorem dX7_init_8 : decode cX7_init 8 = .ok (.newarray .byte, 2) := by decide +kernel
theorem dX7_init_10 : decode cX7_init 10 = .ok (.putfield 7, 3) := by decide +kernel
theorem dX7_init_13 : decode cX7_init 13 = .ok (.aload_n 0, 1) := by decide +kernel
theorem dX7_init_14 : decode cX7_init 14 = .ok (.ldc2_w 13, 3) := by decide +kernel
theorem dX7_init_17 : decode cX7_init 17 = .ok (.putfield 15, 3) := by decide +kernel
theorem dX7_init_20 : decode cX7_init 20 = .ok (.aload_n 0, 1) := by decide +kernel
theorem dX7_init_21 : decode cX7_init 21 = .ok (.bipush 96, 2) := by decide +kernel
theorem dX7_init_23 : decode cX7_init 23 = .ok (.putfield 19, 3) := by decide +kernel
theorem dX7_init_26 : decode cX7_init 26 = .ok (.aload_n 0, 1) := by decide +kernel
theorem dX7_init_27 : decode cX7_init 27 = .ok (.ldc 23, 2) := by decide +kernel
theorem dX7_init_29 : decode cX7_init 29 = .ok (.putfield 24, 3) := by decide +kernel
theorem dX7_init_32 : decode cX7_init 32 = .ok (.aload_n 0, 1) := by decide +kernel
theorem dX7_init_33 : decode cX7_init 33 = .ok (.ldc2_w 27, 3) := by decide +kernel
theorem dX7_init_36 : decode cX7_init 36 = .ok (.putfield 29, 3) := by decide +kernel
theorem dX7_init_39 : decode cX7_init 39 = .ok (.aload_n 0, 1) := by decide +kernel
theorem dX7_init_40 : decode cX7_init 40 = .ok (.lconst 1, 1) := by decide +kernel
theorem dX7_init_41 : decode cX7_init 41 = .ok (.putfield 32, 3) := by decide +kernel
theorem dX7_init_44 : decode cX7_init 44 = .ok (.aload_n 0, 1) := by decide +kernel
theorem dX7_init_45 : decode cX7_init 45 = .ok (.sipush 1500, 3) := by decide +kernel
theorem dX7_init_48 : decode cX7_init 48 = .ok (.putfield 35, 3) := by decide +kernel
theorem dX7_init_51 : decode cX7_init 51 = .ok (.aload_n 0, 1) := by decide +kernel
theorem dX7_init_52 : decode cX7_init 52 = .ok (.sipush 1500, 3) := by decide +kernel
theorem dX7_init_55 : decode cX7_init 55 = .ok (.putfield 38, 3) := by decide +kernel
theorem dX7_init_58 : decode cX7_init 58 = .ok (.aload_n 0, 1) := by decide +kernel
theorem dX7_init_59 : decode cX7_init 59 = .ok (.iconst 1, 1) := by decide +kernel
theorem dX7_init_60 : decode cX7_init 60 = .ok (.putfield 41, 3) := by decide +kernel
theorem dX7_init_63 : decode cX7_init 63 = .ok (.aload_n 0, 1) := by decide +kernel
theorem dX7_init_64 : decode cX7_init 64 = .ok (.iconst 1, 1) := by decide +kernel
theorem dX7_init_65 : decode cX7_init 65 = .ok (.putfield 45, 3) := by decide +kernel
theorem dX7_init_68 : decode cX7_init 68 = .ok (.aload_n 0, 1) := by decide +kernel
theorem dX7_init_69 : decode cX7_init 69 = .ok (.bipush 11, 2) := by decide +kernel
theorem dX7_init_71 : decode cX7_init 71 = .ok (.newarray .int, 2) := by decide +kernel
theorem dX7_init_73 : decode cX7_init 73 = .ok (.putfield 48, 3) := by decide +kernel
theorem dX7_init_76 : decode cX7_init 76 = .ok (.aload_n 0, 1) := by decide +kernel
theorem dX7_init_77 : decode cX7_init 77 = .ok (.sipush 16000, 3) := by decide +kernel
theorem dX7_init_80 : decode cX7_init 80 = .ok (.newarray .byte, 2) := by decide +kernel
theorem dX7_init_82 : decode cX7_init 82 = .ok (.putfield 52, 3) := by decide +kernel
theorem dX7_init_85 : decode cX7_init 85 = .ok (.aload_n 0, 1) := by decide +kernel
theorem dX7_init_86 : decode cX7_init 86 = .ok (.bipush 101, 2) := by decide +kernel
theorem dX7_init_88 : decode cX7_init 88 = .ok (.newarray .int, 2) := by decide +kernel
theorem dX7_init_90 : decode cX7_init 90 = .ok (.putfield 55, 3) := by decide +kernel
theorem dX7_init_93 : decode cX7_init 93 = .ok (.aload_n 0, 1) := by decide +kernel
theorem dX7_init_94 : decode cX7_init 94 = .ok (.sipush 5000, 3) := by decide +kernel
theorem dX7_init_97 : decode cX7_init 97 = .ok (.newarray .byte, 2) := by decide +kernel
theorem dX7_init_99 : decode cX7_init 99 = .ok (.putfield 58, 3) := by decide +kernel
theorem dX7_init_102 : decode cX7_init 102 = .ok (.return_, 1) := by decide +kernel
theorem dX7_thrown_0 : decode cX7_thrown 0 = .ok (.aload_n 0, 1) := by decide +kernel
theorem dX7_thrown_1 : decode cX7_thrown 1 = .ok (.getfield 61, 3) := by decide +kernel
theorem dX7_thrown_4 : decode cX7_thrown 4 = .ok (.ireturn, 1) := by decide +kernel
theorem dX7_four_0 : decode cX7_four 0 = .ok (.bipush 24, 2) := by decide +kernel
theorem dX7_four_2 : decode cX7_four 2 = .ok (.istore_n 2, 1) := by decide +kernel
theorem dX7_four_3 : decode cX7_four 3 = .ok (.iload_n 2, 1) := by decide +kernel
theorem dX7_four_4 : decode cX7_four 4 = .ok (.ifCond .lt 32, 3) := by decide +kernel
theorem dX7_four_7 : decode cX7_four 7 = .ok (.aload_n 0, 1) := by decide +kernel
theorem dX7_four_8 : decode cX7_four 8 = .ok (.getfield 7, 3) := by decide +kernel
theorem dX7_four_11 : decode cX7_four 11 = .ok (.aload_n 0, 1) := by decide +kernel
theorem dX7_four_12 : decode cX7_four 12 = .ok (.getfield 64, 3) := by decide +kernel
theorem dX7_four_15 : decode cX7_four 15 = .ok (.iload_n 1, 1) := by decide +kernel
theorem dX7_four_16 : decode cX7_four 16 = .ok (.iload_n 2, 1) := by decide +kernel
theorem dX7_four_17 : decode cX7_four 17 = .ok (.ishr, 1) := by decide +kernel
theorem dX7_four_18 : decode cX7_four 18 = .ok (.i2b, 1) := by decide +kernel
theorem dX7_four_19 : decode cX7_four 19 = .ok (.bastore, 1) := by decide +kernel
theorem dX7_four_20 : decode cX7_four 20 = .ok (.aload_n 0, 1) := by decide +kernel
theorem dX7_four_21 : decode cX7_four 21 = .ok (.dup, 1) := by decide +kernel
theorem dX7_four_22 : decode cX7_four 22 = .ok (.getfield 64, 3) := by decide +kernel
theorem dX7_four_25 : decode cX7_four 25 = .ok (.iconst 1, 1) := by decide +kernel
theorem dX7_four_26 : decode cX7_four 26 = .ok (.iadd, 1) := by decide +kernel
theorem dX7_four_27 : decode cX7_four 27 = .ok (.putfield 64, 3) := by decide +kernel
theorem dX7_four_30 : decode cX7_four 30 = .ok (.iinc 2 (-8), 3) := by decide +kernel
theorem dX7_four_33 : decode cX7_four 33 = .ok (.goto (-30), 3) := by decide +kernel
theorem dX7_four_36 : decode cX7_four 36 = .ok (.return_, 1) := by decide +kernel
theorem dX7_feed_0 : decode cX7_feed 0 = .ok (.aload_n 0, 1) := by decide +kernel
theorem dX7_feed_1 : decode cX7_feed 1 = .ok (.aload_n 0, 1) := by decide +kernel
theorem dX7_feed_2 : decode cX7_feed 2 = .ok (.getfield 64, 3) := by decide +kernel
theorem dX7_feed_5 : decode cX7_feed 5 = .ok (.bipush 20, 2) := by decide +kernel
theorem dX7_feed_7 : decode cX7_feed 7 = .ok (.iadd, 1) := by decide +kernel
theorem dX7_feed_8 : decode cX7_feed 8 = .ok (.sipush 2400, 3) := by decide +kernel
theorem dX7_feed_11 : decode cX7_feed 11 = .ok (.if_icmp .le 7, 3) := by decide +kernel
theorem dX7_feed_14 : decode cX7_feed 14 = .ok (.iconst 1, 1) := by decide +kernel
theorem dX7_feed_15 : decode cX7_feed 15 = .ok (.goto 4, 3) := by decide +kernel
theorem dX7_feed_18 : decode cX7_feed 18 = .ok (.iconst 0, 1) := by decide +kernel
theorem dX7_feed_19 : decode cX7_feed 19 = .ok (.putfield 61, 3) := by decide +kernel
theorem dX7_feed_22 : decode cX7_feed 22 = .ok (.aload_n 0, 1) := by decide +kernel
theorem dX7_feed_23 : decode cX7_feed 23 = .ok (.getfield 61, 3) := by decide +kernel
theorem dX7_feed_26 : decode cX7_feed 26 = .ok (.ifCond .le 5, 3) := by decide +kernel
theorem dX7_feed_29 : decode cX7_feed 29 = .ok (.iconst 0, 1) := by decide +kernel
theorem dX7_feed_30 : decode cX7_feed 30 = .ok (.ireturn, 1) := by decide +kernel
theorem dX7_feed_31 : decode cX7_feed 31 = .ok (.aload_n 0, 1) := by decide +kernel
theorem dX7_feed_32 : decode cX7_feed 32 = .ok (.iload_n 1, 1) := by decide +kernel
theorem dX7_feed_33 : decode cX7_feed 33 = .ok (.invokevirtual 67, 3) := by decide +kernel
theorem dX7_feed_36 : decode cX7_feed 36 = .ok (.aload_n 0, 1) := by decide +kernel
theorem dX7_feed_37 : decode cX7_feed 37 = .ok (.iload_n 2, 1) := by decide +kernel
theorem dX7_feed_38 : decode cX7_feed 38 = .ok (.invokevirtual 67, 3) := by decide +kernel
theorem dX7_feed_41 : decode cX7_feed 41 = .ok (.aload_n 0, 1) := by decide +kernel
theorem dX7_feed_42 : decode cX7_feed 42 = .ok (.iload_n 3, 1) := by decide +kernel
theorem dX7_feed_43 : decode cX7_feed 43 = .ok (.invokevirtual 67, 3) := by decide +kernel
theorem dX7_feed_46 : decode cX7_feed 46 = .ok (.aload_n 0, 1) := by decide +kernel
theorem dX7_feed_47 : decode cX7_feed 47 = .ok (.iload 4, 2) := by decide +kernel
theorem dX7_feed_49 : decode cX7_feed 49 = .ok (.invokevirtual 67, 3) := by decide +kernel
theorem dX7_feed_52 : decode cX7_feed 52 = .ok (.aload_n 0, 1) := by decide +kernel
theorem dX7_feed_53 : decode cX7_feed 53 = .ok (.iload 5, 2) := by decide +kernel
theorem dX7_feed_55 : decode cX7_feed 55 = .ok (.invokevirtual 67, 3) := by decide +kernel
theorem dX7_feed_58 : decode cX7_feed 58 = .ok (.aload_n 0, 1) := by decide +kernel
theorem dX7_feed_59 : decode cX7_feed 59 = .ok (.getfield 64, 3) := by decide +kernel
theorem dX7_feed_62 : decode cX7_feed 62 = .ok (.ireturn, 1) := by decide +kernel
theorem dX7_end_0 : decode cX7_end 0 = .ok (.aload_n 0, 1) := by decide +kernel
theorem dX7_end_1 : decode cX7_end 1 = .ok (.iload_n 1, 1) := by decide +kernel
theorem dX7_end_2 : decode cX7_end 2 = .ok (.ifCond .lt 11, 3) := by decide +kernel
theorem dX7_end_5 : decode cX7_end 5 = .ok (.iload_n 1, 1) := by decide +kernel
theorem dX7_end_6 : decode cX7_end 6 = .ok (.aload_n 0, 1) := by decide +kernel
theorem dX7_end_7 : decode cX7_end 7 = .ok (.getfield 64, 3) := by decide +kernel
theorem dX7_end_10 : decode cX7_end 10 = .ok (.if_icmp .le 7, 3) := by decide +kernel
theorem dX7_end_13 : decode cX7_end 13 = .ok (.iconst 1, 1) := by decide +kernel
theorem dX7_end_14 : decode cX7_end 14 = .ok (.goto 4, 3) := by decide +kernel
theorem dX7_end_17 : decode cX7_end 17 = .ok (.iconst 0, 1) := by decide +kernel
theorem dX7_end_18 : decode cX7_end 18 = .ok (.putfield 61, 3) := by decide +kernel
theorem dX7_end_21 : decode cX7_end 21 = .ok (.aload_n 0, 1) := by decide +kernel
theorem dX7_end_22 : decode cX7_end 22 = .ok (.getfield 61, 3) := by decide +kernel
theorem dX7_end_25 : decode cX7_end 25 = .ok (.ifCond .le 5, 3) := by decide +kernel
theorem dX7_end_28 : decode cX7_end 28 = .ok (.iconst 0, 1) := by decide +kernel
theorem dX7_end_29 : decode cX7_end 29 = .ok (.ireturn, 1) := by decide +kernel
theorem dX7_end_30 : decode cX7_end 30 = .ok (.aload_n 0, 1) := by decide +kernel
theorem dX7_end_31 : decode cX7_end 31 = .ok (.iload_n 1, 1) := by decide +kernel
theorem dX7_end_32 : decode cX7_end 32 = .ok (.putfield 64, 3) := by decide +kernel
theorem dX7_end_35 : decode cX7_end 35 = .ok (.iload_n 1, 1) := by decide +kernel
theorem dX7_end_36 : decode cX7_end 36 = .ok (.ireturn, 1) := by decide +kernel
theorem dX7_bit_0 : decode cX7_bit 0 = .ok (.iload 4, 2) := by decide +kernel
theorem dX7_bit_2 : decode cX7_bit 2 = .ok (.bipush 64, 2) := by decide +kernel
theorem dX7_bit_4 : decode cX7_bit 4 = .ok (.if_icmp .ge 15, 3) := by decide +kernel
theorem dX7_bit_7 : decode cX7_bit 7 = .ok (.lload_n 0, 1) := by decide +kernel
theorem dX7_bit_8 : decode cX7_bit 8 = .ok (.bipush 63, 2) := by decide +kernel
theorem dX7_bit_10 : decode cX7_bit 10 = .ok (.iload 4, 2) := by decide +kernel
theorem dX7_bit_12 : decode cX7_bit 12 = .ok (.isub, 1) := by decide +kernel
theorem dX7_bit_13 : decode cX7_bit 13 = .ok (.lushr, 1) := by decide +kernel
theorem dX7_bit_14 : decode cX7_bit 14 = .ok (.lconst 1, 1) := by decide +kernel
theorem dX7_bit_15 : decode cX7_bit 15 = .ok (.land, 1) := by decide +kernel
theorem dX7_bit_16 : decode cX7_bit 16 = .ok (.goto 12, 3) := by decide +kernel
theorem dX7_bit_19 : decode cX7_bit 19 = .ok (.lload_n 2, 1) := by decide +kernel
theorem dX7_bit_20 : decode cX7_bit 20 = .ok (.bipush 127, 2) := by decide +kernel
theorem dX7_bit_22 : decode cX7_bit 22 = .ok (.iload 4, 2) := by decide +kernel
theorem dX7_bit_24 : decode cX7_bit 24 = .ok (.isub, 1) := by decide +kernel
theorem dX7_bit_25 : decode cX7_bit 25 = .ok (.lushr, 1) := by decide +kernel
theorem dX7_bit_26 : decode cX7_bit 26 = .ok (.lconst 1, 1) := by decide +kernel
theorem dX7_bit_27 : decode cX7_bit 27 = .ok (.land, 1) := by decide +kernel
theorem dX7_bit_28 : decode cX7_bit 28 = .ok (.l2i, 1) := by decide +kernel
theorem dX7_bit_29 : decode cX7_bit 29 = .ok (.ireturn, 1) := by decide +kernel
theorem dX7_prefix_0 : decode cX7_prefix 0 = .ok (.iload 5, 2) := by decide +kernel
theorem dX7_prefix_2 : decode cX7_prefix 2 = .ok (.bipush 32, 2) := by decide +kernel
theorem dX7_prefix_4 : decode cX7_prefix 4 = .ok (.if_icmp .eq 38, 3) := by decide +kernel
theorem dX7_prefix_7 : decode cX7_prefix 7 = .ok (.iload 5, 2) := by decide +kernel
theorem dX7_prefix_9 : decode cX7_prefix 9 = .ok (.bipush 40, 2) := by decide +kernel
theorem dX7_prefix_11 : decode cX7_prefix 11 = .ok (.if_icmp .eq 31, 3) := by decide +kernel
theorem dX7_prefix_14 : decode cX7_prefix 14 = .ok (.iload 5, 2) := by decide +kernel
theorem dX7_prefix_16 : decode cX7_prefix 16 = .ok (.bipush 48, 2) := by decide +kernel
theorem dX7_prefix_18 : decode cX7_prefix 18 = .ok (.if_icmp .eq 24, 3) := by decide +kernel
theorem dX7_prefix_21 : decode cX7_prefix 21 = .ok (.iload 5, 2) := by decide +kernel
theorem dX7_prefix_23 : decode cX7_prefix 23 = .ok (.bipush 56, 2) := by decide +kernel
theorem dX7_prefix_25 : decode cX7_prefix 25 = .ok (.if_icmp .eq 17, 3) := by decide +kernel
theorem dX7_prefix_28 : decode cX7_prefix 28 = .ok (.iload 5, 2) := by decide +kernel
theorem dX7_prefix_30 : decode cX7_prefix 30 = .ok (.bipush 64, 2) := by decide +kernel
theorem dX7_prefix_32 : decode cX7_prefix 32 = .ok (.if_icmp .eq 10, 3) := by decide +kernel
theorem dX7_prefix_35 : decode cX7_prefix 35 = .ok (.iload 5, 2) := by decide +kernel
theorem dX7_prefix_37 : decode cX7_prefix 37 = .ok (.bipush 96, 2) := by decide +kernel
theorem dX7_prefix_39 : decode cX7_prefix 39 = .ok (.if_icmp .ne 7, 3) := by decide +kernel
theorem dX7_prefix_42 : decode cX7_prefix 42 = .ok (.iconst 1, 1) := by decide +kernel
theorem dX7_prefix_43 : decode cX7_prefix 43 = .ok (.goto 4, 3) := by decide +kernel
theorem dX7_prefix_46 : decode cX7_prefix 46 = .ok (.iconst 0, 1) := by decide +kernel
theorem dX7_prefix_47 : decode cX7_prefix 47 = .ok (.istore 6, 2) := by decide +kernel
theorem dX7_prefix_49 : decode cX7_prefix 49 = .ok (.iconst 0, 1) := by decide +kernel
theorem dX7_prefix_50 : decode cX7_prefix 50 = .ok (.istore 7, 2) := by decide +kernel
theorem dX7_prefix_52 : decode cX7_prefix 52 = .ok (.iload 6, 2) := by decide +kernel
theorem dX7_prefix_54 : decode cX7_prefix 54 = .ok (.ifCond .eq 55, 3) := by decide +kernel
theorem dX7_prefix_57 : decode cX7_prefix 57 = .ok (.iload 7, 2) := by decide +kernel
theorem dX7_prefix_59 : decode cX7_prefix 59 = .ok (.sipush 128, 3) := by decide +kernel
theorem dX7_prefix_62 : decode cX7_prefix 62 = .ok (.if_icmp .ge 47, 3) := by decide +kernel
theorem dX7_prefix_65 : decode cX7_prefix 65 = .ok (.lload_n 1, 1) := by decide +kernel
theorem dX7_prefix_66 : decode cX7_prefix 66 = .ok (.lload_n 3, 1) := by decide +kernel
theorem dX7_prefix_67 : decode cX7_prefix 67 = .ok (.iload 7, 2) := by decide +kernel
theorem dX7_prefix_69 : decode cX7_prefix 69 = .ok (.invokestatic 71, 3) := by decide +kernel
theorem dX7_prefix_72 : decode cX7_prefix 72 = .ok (.ifCond .eq 24, 3) := by decide +kernel
theorem dX7_prefix_75 : decode cX7_prefix 75 = .ok (.iload 7, 2) := by decide +kernel
theorem dX7_prefix_77 : decode cX7_prefix 77 = .ok (.iload 5, 2) := by decide +kernel
theorem dX7_prefix_79 : decode cX7_prefix 79 = .ok (.if_icmp .ge 21, 3) := by decide +kernel
theorem dX7_prefix_82 : decode cX7_prefix 82 = .ok (.iload 7, 2) := by decide +kernel
theorem dX7_prefix_84 : decode cX7_prefix 84 = .ok (.bipush 64, 2) := by decide +kernel
theorem dX7_prefix_86 : decode cX7_prefix 86 = .ok (.if_icmp .lt 10, 3) := by decide +kernel
theorem dX7_prefix_89 : decode cX7_prefix 89 = .ok (.iload 7, 2) := by decide +kernel
theorem dX7_prefix_91 : decode cX7_prefix 91 = .ok (.bipush 71, 2) := by decide +kernel
theorem dX7_prefix_93 : decode cX7_prefix 93 = .ok (.if_icmp .le 7, 3) := by decide +kernel
theorem dX7_prefix_96 : decode cX7_prefix 96 = .ok (.iconst 1, 1) := by decide +kernel
theorem dX7_prefix_97 : decode cX7_prefix 97 = .ok (.goto 4, 3) := by decide +kernel
theorem dX7_prefix_100 : decode cX7_prefix 100 = .ok (.iconst 0, 1) := by decide +kernel
theorem dX7_prefix_101 : decode cX7_prefix 101 = .ok (.istore 6, 2) := by decide +kernel
theorem dX7_prefix_103 : decode cX7_prefix 103 = .ok (.iinc 7 1, 3) := by decide +kernel
theorem dX7_prefix_106 : decode cX7_prefix 106 = .ok (.goto (-54), 3) := by decide +kernel
theorem dX7_prefix_109 : decode cX7_prefix 109 = .ok (.aload_n 0, 1) := by decide +kernel
theorem dX7_prefix_110 : decode cX7_prefix 110 = .ok (.iload 6, 2) := by decide +kernel
theorem dX7_prefix_112 : decode cX7_prefix 112 = .ok (.ifCond .eq 7, 3) := by decide +kernel
theorem dX7_prefix_115 : decode cX7_prefix 115 = .ok (.iconst 0, 1) := by decide +kernel
theorem dX7_prefix_116 : decode cX7_prefix 116 = .ok (.goto 4, 3) := by decide +kernel
theorem dX7_prefix_119 : decode cX7_prefix 119 = .ok (.iconst 1, 1) := by decide +kernel
theorem dX7_prefix_120 : decode cX7_prefix 120 = .ok (.putfield 61, 3) := by decide +kernel
theorem dX7_prefix_123 : decode cX7_prefix 123 = .ok (.iload 6, 2) := by decide +kernel
theorem dX7_prefix_125 : decode cX7_prefix 125 = .ok (.ifCond .ne 4, 3) := by decide +kernel
theorem dX7_prefix_128 : decode cX7_prefix 128 = .ok (.return_, 1) := by decide +kernel
theorem dX7_prefix_129 : decode cX7_prefix 129 = .ok (.aload_n 0, 1) := by decide +kernel
theorem dX7_prefix_130 : decode cX7_prefix 130 = .ok (.lload_n 1, 1) := by decide +kernel
theorem dX7_prefix_131 : decode cX7_prefix 131 = .ok (.putfield 15, 3) := by decide +kernel
theorem dX7_prefix_134 : decode cX7_prefix 134 = .ok (.aload_n 0, 1) := by decide +kernel
theorem dX7_prefix_135 : decode cX7_prefix 135 = .ok (.lload_n 3, 1) := by decide +kernel
theorem dX7_prefix_136 : decode cX7_prefix 136 = .ok (.putfield 75, 3) := by decide +kernel
theorem dX7_prefix_139 : decode cX7_prefix 139 = .ok (.aload_n 0, 1) := by decide +kernel
theorem dX7_prefix_140 : decode cX7_prefix 140 = .ok (.iload 5, 2) := by decide +kernel
theorem dX7_prefix_142 : decode cX7_prefix 142 = .ok (.putfield 19, 3) := by decide +kernel
theorem dX7_prefix_145 : decode cX7_prefix 145 = .ok (.return_, 1) := by decide +kernel
theorem dX7_own_0 : decode cX7_own 0 = .ok (.aload_n 0, 1) := by decide +kernel
theorem dX7_own_1 : decode cX7_own 1 = .ok (.iconst 0, 1) := by decide +kernel
theorem dX7_own_2 : decode cX7_own 2 = .ok (.putfield 61, 3) := by decide +kernel
theorem dX7_own_5 : decode cX7_own 5 = .ok (.aload_n 0, 1) := by decide +kernel
theorem dX7_own_6 : decode cX7_own 6 = .ok (.iload_n 1, 1) := by decide +kernel
theorem dX7_own_7 : decode cX7_own 7 = .ok (.putfield 24, 3) := by decide +kernel
theorem dX7_own_10 : decode cX7_own 10 = .ok (.aload_n 0, 1) := by decide +kernel
theorem dX7_own_11 : decode cX7_own 11 = .ok (.lload_n 2, 1) := by decide +kernel
theorem dX7_own_12 : decode cX7_own 12 = .ok (.putfield 29, 3) := by decide +kernel
theorem dX7_own_15 : decode cX7_own 15 = .ok (.aload_n 0, 1) := by decide +kernel
theorem dX7_own_16 : decode cX7_own 16 = .ok (.lload 4, 2) := by decide +kernel
theorem dX7_own_18 : decode cX7_own 18 = .ok (.putfield 32, 3) := by decide +kernel
theorem dX7_own_21 : decode cX7_own 21 = .ok (.return_, 1) := by decide +kernel
theorem dX7_limits_0 : decode cX7_limits 0 = .ok (.aload_n 0, 1) := by decide +kernel
theorem dX7_limits_1 : decode cX7_limits 1 = .ok (.iload_n 1, 1) := by decide +kernel
theorem dX7_limits_2 : decode cX7_limits 2 = .ok (.bipush 68, 2) := by decide +kernel
theorem dX7_limits_4 : decode cX7_limits 4 = .ok (.if_icmp .lt 24, 3) := by decide +kernel
theorem dX7_limits_7 : decode cX7_limits 7 = .ok (.iload_n 1, 1) := by decide +kernel
theorem dX7_limits_8 : decode cX7_limits 8 = .ok (.sipush 2000, 3) := by decide +kernel
theorem dX7_limits_11 : decode cX7_limits 11 = .ok (.if_icmp .gt 17, 3) := by decide +kernel
theorem dX7_limits_14 : decode cX7_limits 14 = .ok (.iload_n 2, 1) := by decide +kernel
theorem dX7_limits_15 : decode cX7_limits 15 = .ok (.sipush 1280, 3) := by decide +kernel
theorem dX7_limits_18 : decode cX7_limits 18 = .ok (.if_icmp .lt 10, 3) := by decide +kernel
theorem dX7_limits_21 : decode cX7_limits 21 = .ok (.iload_n 2, 1) := by decide +kernel
theorem dX7_limits_22 : decode cX7_limits 22 = .ok (.sipush 2000, 3) := by decide +kernel
theorem dX7_limits_25 : decode cX7_limits 25 = .ok (.if_icmp .le 7, 3) := by decide +kernel
theorem dX7_limits_28 : decode cX7_limits 28 = .ok (.iconst 1, 1) := by decide +kernel
theorem dX7_limits_29 : decode cX7_limits 29 = .ok (.goto 4, 3) := by decide +kernel
theorem dX7_limits_32 : decode cX7_limits 32 = .ok (.iconst 0, 1) := by decide +kernel
theorem dX7_limits_33 : decode cX7_limits 33 = .ok (.putfield 61, 3) := by decide +kernel
theorem dX7_limits_36 : decode cX7_limits 36 = .ok (.aload_n 0, 1) := by decide +kernel
theorem dX7_limits_37 : decode cX7_limits 37 = .ok (.getfield 61, 3) := by decide +kernel
theorem dX7_limits_40 : decode cX7_limits 40 = .ok (.ifCond .le 4, 3) := by decide +kernel
theorem dX7_limits_43 : decode cX7_limits 43 = .ok (.return_, 1) := by decide +kernel
theorem dX7_limits_44 : decode cX7_limits 44 = .ok (.aload_n 0, 1) := by decide +kernel
theorem dX7_limits_45 : decode cX7_limits 45 = .ok (.iload_n 1, 1) := by decide +kernel
theorem dX7_limits_46 : decode cX7_limits 46 = .ok (.putfield 35, 3) := by decide +kernel
theorem dX7_limits_49 : decode cX7_limits 49 = .ok (.aload_n 0, 1) := by decide +kernel
theorem dX7_limits_50 : decode cX7_limits 50 = .ok (.iload_n 2, 1) := by decide +kernel
theorem dX7_limits_51 : decode cX7_limits 51 = .ok (.putfield 38, 3) := by decide +kernel
theorem dX7_limits_54 : decode cX7_limits 54 = .ok (.return_, 1) := by decide +kernel
theorem dX7_ways_0 : decode cX7_ways 0 = .ok (.aload_n 0, 1) := by decide +kernel
theorem dX7_ways_1 : decode cX7_ways 1 = .ok (.iconst 0, 1) := by decide +kernel
theorem dX7_ways_2 : decode cX7_ways 2 = .ok (.putfield 61, 3) := by decide +kernel
theorem dX7_ways_5 : decode cX7_ways 5 = .ok (.aload_n 0, 1) := by decide +kernel
theorem dX7_ways_6 : decode cX7_ways 6 = .ok (.iload_n 1, 1) := by decide +kernel
theorem dX7_ways_7 : decode cX7_ways 7 = .ok (.putfield 41, 3) := by decide +kernel
theorem dX7_ways_10 : decode cX7_ways 10 = .ok (.aload_n 0, 1) := by decide +kernel
theorem dX7_ways_11 : decode cX7_ways 11 = .ok (.iload_n 2, 1) := by decide +kernel
theorem dX7_ways_12 : decode cX7_ways 12 = .ok (.putfield 45, 3) := by decide +kernel
theorem dX7_ways_15 : decode cX7_ways 15 = .ok (.return_, 1) := by decide +kernel
theorem dX7_isMappable_0 : decode cX7_isMappable 0 = .ok (.iload_n 1, 1) := by decide +kernel
theorem dX7_isMappable_1 : decode cX7_isMappable 1 = .ok (.bipush 24, 2) := by decide +kernel
theorem dX7_isMappable_3 : decode cX7_isMappable 3 = .ok (.iushr, 1) := by decide +kernel
theorem dX7_isMappable_4 : decode cX7_isMappable 4 = .ok (.istore_n 2, 1) := by decide +kernel
theorem dX7_isMappable_5 : decode cX7_isMappable 5 = .ok (.iload_n 1, 1) := by decide +kernel
theorem dX7_isMappable_6 : decode cX7_isMappable 6 = .ok (.bipush 16, 2) := by decide +kernel
theorem dX7_isMappable_8 : decode cX7_isMappable 8 = .ok (.iushr, 1) := by decide +kernel
theorem dX7_isMappable_9 : decode cX7_isMappable 9 = .ok (.sipush 255, 3) := by decide +kernel
theorem dX7_isMappable_12 : decode cX7_isMappable 12 = .ok (.iand, 1) := by decide +kernel
theorem dX7_isMappable_13 : decode cX7_isMappable 13 = .ok (.istore_n 3, 1) := by decide +kernel
theorem dX7_isMappable_14 : decode cX7_isMappable 14 = .ok (.iload_n 2, 1) := by decide +kernel
theorem dX7_isMappable_15 : decode cX7_isMappable 15 = .ok (.ifCond .eq 30, 3) := by decide +kernel
theorem dX7_isMappable_18 : decode cX7_isMappable 18 = .ok (.iload_n 2, 1) := by decide +kernel
theorem dX7_isMappable_19 : decode cX7_isMappable 19 = .ok (.bipush 127, 2) := by decide +kernel
theorem dX7_isMappable_21 : decode cX7_isMappable 21 = .ok (.if_icmp .eq 24, 3) := by decide +kernel
theorem dX7_isMappable_24 : decode cX7_isMappable 24 = .ok (.iload_n 2, 1) := by decide +kernel
theorem dX7_isMappable_25 : decode cX7_isMappable 25 = .ok (.sipush 169, 3) := by decide +kernel
theorem dX7_isMappable_28 : decode cX7_isMappable 28 = .ok (.if_icmp .ne 10, 3) := by decide +kernel
theorem dX7_isMappable_31 : decode cX7_isMappable 31 = .ok (.iload_n 3, 1) := by decide +kernel
theorem dX7_isMappable_32 : decode cX7_isMappable 32 = .ok (.sipush 254, 3) := by decide +kernel
theorem dX7_isMappable_35 : decode cX7_isMappable 35 = .ok (.if_icmp .eq 10, 3) := by decide +kernel
theorem dX7_isMappable_38 : decode cX7_isMappable 38 = .ok (.iload_n 2, 1) := by decide +kernel
theorem dX7_isMappable_39 : decode cX7_isMappable 39 = .ok (.sipush 224, 3) := by decide +kernel
theorem dX7_isMappable_42 : decode cX7_isMappable 42 = .ok (.if_icmp .lt 5, 3) := by decide +kernel
theorem dX7_isMappable_45 : decode cX7_isMappable 45 = .ok (.iconst 0, 1) := by decide +kernel
theorem dX7_isMappable_46 : decode cX7_isMappable 46 = .ok (.ireturn, 1) := by decide +kernel
theorem dX7_isMappable_47 : decode cX7_isMappable 47 = .ok (.aload_n 0, 1) := by decide +kernel
theorem dX7_isMappable_48 : decode cX7_isMappable 48 = .ok (.getfield 19, 3) := by decide +kernel
theorem dX7_isMappable_51 : decode cX7_isMappable 51 = .ok (.bipush 96, 2) := by decide +kernel
theorem dX7_isMappable_53 : decode cX7_isMappable 53 = .ok (.if_icmp .ne 27, 3) := by decide +kernel
theorem dX7_isMappable_56 : decode cX7_isMappable 56 = .ok (.aload_n 0, 1) := by decide +kernel
theorem dX7_isMappable_57 : decode cX7_isMappable 57 = .ok (.getfield 15, 3) := by decide +kernel
theorem dX7_isMappable_60 : decode cX7_isMappable 60 = .ok (.ldc2_w 13, 3) := by decide +kernel
theorem dX7_isMappable_63 : decode cX7_isMappable 63 = .ok (.lcmp, 1) := by decide +kernel
theorem dX7_isMappable_64 : decode cX7_isMappable 64 = .ok (.ifCond .ne 16, 3) := by decide +kernel
theorem dX7_isMappable_67 : decode cX7_isMappable 67 = .ok (.aload_n 0, 1) := by decide +kernel
theorem dX7_isMappable_68 : decode cX7_isMappable 68 = .ok (.getfield 75, 3) := by decide +kernel
theorem dX7_isMappable_71 : decode cX7_isMappable 71 = .ok (.lconst 0, 1) := by decide +kernel
theorem dX7_isMappable_72 : decode cX7_isMappable 72 = .ok (.lcmp, 1) := by decide +kernel
theorem dX7_isMappable_73 : decode cX7_isMappable 73 = .ok (.ifCond .ne 7, 3) := by decide +kernel
theorem dX7_isMappable_76 : decode cX7_isMappable 76 = .ok (.iconst 1, 1) := by decide +kernel
theorem dX7_isMappable_77 : decode cX7_isMappable 77 = .ok (.goto 4, 3) := by decide +kernel
theorem dX7_isMappable_80 : decode cX7_isMappable 80 = .ok (.iconst 0, 1) := by decide +kernel
theorem dX7_isMappable_81 : decode cX7_isMappable 81 = .ok (.istore 4, 2) := by decide +kernel
theorem dX7_isMappable_83 : decode cX7_isMappable 83 = .ok (.iload 4, 2) := by decide +kernel
theorem dX7_isMappable_85 : decode cX7_isMappable 85 = .ok (.ifCond .eq 42, 3) := by decide +kernel
theorem dX7_isMappable_88 : decode cX7_isMappable 88 = .ok (.iload_n 2, 1) := by decide +kernel
theorem dX7_isMappable_89 : decode cX7_isMappable 89 = .ok (.bipush 10, 2) := by decide +kernel
theorem dX7_isMappable_91 : decode cX7_isMappable 91 = .ok (.if_icmp .eq 40, 3) := by decide +kernel
theorem dX7_isMappable_94 : decode cX7_isMappable 94 = .ok (.iload_n 2, 1) := by decide +kernel
theorem dX7_isMappable_95 : decode cX7_isMappable 95 = .ok (.sipush 172, 3) := by decide +kernel
theorem dX7_isMappable_98 : decode cX7_isMappable 98 = .ok (.if_icmp .ne 15, 3) := by decide +kernel
theorem dX7_isMappable_101 : decode cX7_isMappable 101 = .ok (.iload_n 3, 1) := by decide +kernel
theorem dX7_isMappable_102 : decode cX7_isMappable 102 = .ok (.bipush 16, 2) := by decide +kernel
theorem dX7_isMappable_104 : decode cX7_isMappable 104 = .ok (.if_icmp .lt 9, 3) := by decide +kernel
theorem dX7_isMappable_107 : decode cX7_isMappable 107 = .ok (.iload_n 3, 1) := by decide +kernel
theorem dX7_isMappable_108 : decode cX7_isMappable 108 = .ok (.bipush 31, 2) := by decide +kernel
theorem dX7_isMappable_110 : decode cX7_isMappable 110 = .ok (.if_icmp .le 21, 3) := by decide +kernel
theorem dX7_isMappable_113 : decode cX7_isMappable 113 = .ok (.iload_n 2, 1) := by decide +kernel
theorem dX7_isMappable_114 : decode cX7_isMappable 114 = .ok (.sipush 192, 3) := by decide +kernel
theorem dX7_isMappable_117 : decode cX7_isMappable 117 = .ok (.if_icmp .ne 10, 3) := by decide +kernel
theorem dX7_isMappable_120 : decode cX7_isMappable 120 = .ok (.iload_n 3, 1) := by decide +kernel
theorem dX7_isMappable_121 : decode cX7_isMappable 121 = .ok (.sipush 168, 3) := by decide +kernel
theorem dX7_isMappable_124 : decode cX7_isMappable 124 = .ok (.if_icmp .eq 7, 3) := by decide +kernel
theorem dX7_isMappable_127 : decode cX7_isMappable 127 = .ok (.iconst 1, 1) := by decide +kernel
theorem dX7_isMappable_128 : decode cX7_isMappable 128 = .ok (.goto 4, 3) := by decide +kernel
theorem dX7_isMappable_131 : decode cX7_isMappable 131 = .ok (.iconst 0, 1) := by decide +kernel
theorem dX7_isMappable_132 : decode cX7_isMappable 132 = .ok (.ireturn, 1) := by decide +kernel
theorem dX7_makeImage_0 : decode cX7_makeImage 0 = .ok (.aload_n 0, 1) := by decide +kernel
theorem dX7_makeImage_1 : decode cX7_makeImage 1 = .ok (.aload_n 0, 1) := by decide +kernel
theorem dX7_makeImage_2 : decode cX7_makeImage 2 = .ok (.getfield 15, 3) := by decide +kernel
theorem dX7_makeImage_5 : decode cX7_makeImage 5 = .ok (.putfield 78, 3) := by decide +kernel
theorem dX7_makeImage_8 : decode cX7_makeImage 8 = .ok (.aload_n 0, 1) := by decide +kernel
theorem dX7_makeImage_9 : decode cX7_makeImage 9 = .ok (.aload_n 0, 1) := by decide +kernel
theorem dX7_makeImage_10 : decode cX7_makeImage 10 = .ok (.getfield 75, 3) := by decide +kernel
theorem dX7_makeImage_13 : decode cX7_makeImage 13 = .ok (.putfield 81, 3) := by decide +kernel
theorem dX7_makeImage_16 : decode cX7_makeImage 16 = .ok (.aload_n 0, 1) := by decide +kernel
theorem dX7_makeImage_17 : decode cX7_makeImage 17 = .ok (.getfield 19, 3) := by decide +kernel
theorem dX7_makeImage_20 : decode cX7_makeImage 20 = .ok (.istore_n 2, 1) := by decide +kernel
theorem dX7_makeImage_21 : decode cX7_makeImage 21 = .ok (.bipush 31, 2) := by decide +kernel
theorem dX7_makeImage_23 : decode cX7_makeImage 23 = .ok (.istore_n 3, 1) := by decide +kernel
theorem dX7_makeImage_24 : decode cX7_makeImage 24 = .ok (.iload_n 3, 1) := by decide +kernel
theorem dX7_makeImage_25 : decode cX7_makeImage 25 = .ok (.ifCond .lt 70, 3) := by decide +kernel
theorem dX7_makeImage_28 : decode cX7_makeImage 28 = .ok (.iload_n 2, 1) := by decide +kernel
theorem dX7_makeImage_29 : decode cX7_makeImage 29 = .ok (.bipush 64, 2) := by decide +kernel
theorem dX7_makeImage_31 : decode cX7_makeImage 31 = .ok (.if_icmp .ne 6, 3) := by decide +kernel
theorem dX7_makeImage_34 : decode cX7_makeImage 34 = .ok (.bipush 72, 2) := by decide +kernel
theorem dX7_makeImage_36 : decode cX7_makeImage 36 = .ok (.istore_n 2, 1) := by decide +kernel
theorem dX7_makeImage_37 : decode cX7_makeImage 37 = .ok (.iload_n 1, 1) := by decide +kernel
theorem dX7_makeImage_38 : decode cX7_makeImage 38 = .ok (.iload_n 3, 1) := by decide +kernel
theorem dX7_makeImage_39 : decode cX7_makeImage 39 = .ok (.iushr, 1) := by decide +kernel
theorem dX7_makeImage_40 : decode cX7_makeImage 40 = .ok (.iconst 1, 1) := by decide +kernel
theorem dX7_makeImage_41 : decode cX7_makeImage 41 = .ok (.iand, 1) := by decide +kernel
theorem dX7_makeImage_42 : decode cX7_makeImage 42 = .ok (.i2l, 1) := by decide +kernel
theorem dX7_makeImage_43 : decode cX7_makeImage 43 = .ok (.lstore 4, 2) := by decide +kernel
theorem dX7_makeImage_45 : decode cX7_makeImage 45 = .ok (.iload_n 2, 1) := by decide +kernel
theorem dX7_makeImage_46 : decode cX7_makeImage 46 = .ok (.bipush 64, 2) := by decide +kernel
theorem dX7_makeImage_48 : decode cX7_makeImage 48 = .ok (.if_icmp .ge 22, 3) := by decide +kernel
theorem dX7_makeImage_51 : decode cX7_makeImage 51 = .ok (.aload_n 0, 1) := by decide +kernel
theorem dX7_makeImage_52 : decode cX7_makeImage 52 = .ok (.dup, 1) := by decide +kernel
theorem dX7_makeImage_53 : decode cX7_makeImage 53 = .ok (.getfield 78, 3) := by decide +kernel
theorem dX7_makeImage_56 : decode cX7_makeImage 56 = .ok (.lload 4, 2) := by decide +kernel
theorem dX7_makeImage_58 : decode cX7_makeImage 58 = .ok (.bipush 63, 2) := by decide +kernel
theorem dX7_makeImage_60 : decode cX7_makeImage 60 = .ok (.iload_n 2, 1) := by decide +kernel
theorem dX7_makeImage_61 : decode cX7_makeImage 61 = .ok (.isub, 1) := by decide +kernel
theorem dX7_makeImage_62 : decode cX7_makeImage 62 = .ok (.lshl, 1) := by decide +kernel
theorem dX7_makeImage_63 : decode cX7_makeImage 63 = .ok (.lor, 1) := by decide +kernel
theorem dX7_makeImage_64 : decode cX7_makeImage 64 = .ok (.putfield 78, 3) := by decide +kernel
theorem dX7_makeImage_67 : decode cX7_makeImage 67 = .ok (.goto 19, 3) := by decide +kernel
theorem dX7_makeImage_70 : decode cX7_makeImage 70 = .ok (.aload_n 0, 1) := by decide +kernel
theorem dX7_makeImage_71 : decode cX7_makeImage 71 = .ok (.dup, 1) := by decide +kernel
theorem dX7_makeImage_72 : decode cX7_makeImage 72 = .ok (.getfield 81, 3) := by decide +kernel
theorem dX7_makeImage_75 : decode cX7_makeImage 75 = .ok (.lload 4, 2) := by decide +kernel
theorem dX7_makeImage_77 : decode cX7_makeImage 77 = .ok (.bipush 127, 2) := by decide +kernel
theorem dX7_makeImage_79 : decode cX7_makeImage 79 = .ok (.iload_n 2, 1) := by decide +kernel
theorem dX7_makeImage_80 : decode cX7_makeImage 80 = .ok (.isub, 1) := by decide +kernel
theorem dX7_makeImage_81 : decode cX7_makeImage 81 = .ok (.lshl, 1) := by decide +kernel
theorem dX7_makeImage_82 : decode cX7_makeImage 82 = .ok (.lor, 1) := by decide +kernel
theorem dX7_makeImage_83 : decode cX7_makeImage 83 = .ok (.putfield 81, 3) := by decide +kernel
theorem dX7_makeImage_86 : decode cX7_makeImage 86 = .ok (.iinc 2 1, 3) := by decide +kernel
theorem dX7_makeImage_89 : decode cX7_makeImage 89 = .ok (.iinc 3 (-1), 3) := by decide +kernel
theorem dX7_makeImage_92 : decode cX7_makeImage 92 = .ok (.goto (-68), 3) := by decide +kernel
theorem dX7_makeImage_95 : decode cX7_makeImage 95 = .ok (.return_, 1) := by decide +kernel
theorem dX7_isImage_0 : decode cX7_isImage 0 = .ok (.iconst 0, 1) := by decide +kernel
theorem dX7_isImage_1 : decode cX7_isImage 1 = .ok (.istore 5, 2) := by decide +kernel
theorem dX7_isImage_3 : decode cX7_isImage 3 = .ok (.aload_n 0, 1) := by decide +kernel
theorem dX7_isImage_4 : decode cX7_isImage 4 = .ok (.getfield 19, 3) := by decide +kernel
theorem dX7_isImage_7 : decode cX7_isImage 7 = .ok (.istore 6, 2) := by decide +kernel
theorem dX7_isImage_9 : decode cX7_isImage 9 = .ok (.bipush 31, 2) := by decide +kernel
theorem dX7_isImage_11 : decode cX7_isImage 11 = .ok (.istore 7, 2) := by decide +kernel
theorem dX7_isImage_13 : decode cX7_isImage 13 = .ok (.iload 7, 2) := by decide +kernel
theorem dX7_isImage_15 : decode cX7_isImage 15 = .ok (.ifCond .lt 38, 3) := by decide +kernel
theorem dX7_isImage_18 : decode cX7_isImage 18 = .ok (.iload 6, 2) := by decide +kernel
theorem dX7_isImage_20 : decode cX7_isImage 20 = .ok (.bipush 64, 2) := by decide +kernel
theorem dX7_isImage_22 : decode cX7_isImage 22 = .ok (.if_icmp .ne 7, 3) := by decide +kernel
theorem dX7_isImage_25 : decode cX7_isImage 25 = .ok (.bipush 72, 2) := by decide +kernel
theorem dX7_isImage_27 : decode cX7_isImage 27 = .ok (.istore 6, 2) := by decide +kernel
theorem dX7_isImage_29 : decode cX7_isImage 29 = .ok (.iload 5, 2) := by decide +kernel
theorem dX7_isImage_31 : decode cX7_isImage 31 = .ok (.lload_n 1, 1) := by decide +kernel
theorem dX7_isImage_32 : decode cX7_isImage 32 = .ok (.lload_n 3, 1) := by decide +kernel
theorem dX7_isImage_33 : decode cX7_isImage 33 = .ok (.iload 6, 2) := by decide +kernel
theorem dX7_isImage_35 : decode cX7_isImage 35 = .ok (.invokestatic 71, 3) := by decide +kernel
theorem dX7_isImage_38 : decode cX7_isImage 38 = .ok (.iload 7, 2) := by decide +kernel
theorem dX7_isImage_40 : decode cX7_isImage 40 = .ok (.ishl, 1) := by decide +kernel
theorem dX7_isImage_41 : decode cX7_isImage 41 = .ok (.ior, 1) := by decide +kernel
theorem dX7_isImage_42 : decode cX7_isImage 42 = .ok (.istore 5, 2) := by decide +kernel
theorem dX7_isImage_44 : decode cX7_isImage 44 = .ok (.iinc 6 1, 3) := by decide +kernel
theorem dX7_isImage_47 : decode cX7_isImage 47 = .ok (.iinc 7 (-1), 3) := by decide +kernel
theorem dX7_isImage_50 : decode cX7_isImage 50 = .ok (.goto (-37), 3) := by decide +kernel
theorem dX7_isImage_53 : decode cX7_isImage 53 = .ok (.aload_n 0, 1) := by decide +kernel
theorem dX7_isImage_54 : decode cX7_isImage 54 = .ok (.iload 5, 2) := by decide +kernel
theorem dX7_isImage_56 : decode cX7_isImage 56 = .ok (.putfield 84, 3) := by decide +kernel
theorem dX7_isImage_59 : decode cX7_isImage 59 = .ok (.aload_n 0, 1) := by decide +kernel
theorem dX7_isImage_60 : decode cX7_isImage 60 = .ok (.iload 5, 2) := by decide +kernel
theorem dX7_isImage_62 : decode cX7_isImage 62 = .ok (.invokevirtual 87, 3) := by decide +kernel
theorem dX7_isImage_65 : decode cX7_isImage 65 = .ok (.aload_n 0, 1) := by decide +kernel
theorem dX7_isImage_66 : decode cX7_isImage 66 = .ok (.getfield 78, 3) := by decide +kernel
theorem dX7_isImage_69 : decode cX7_isImage 69 = .ok (.lload_n 1, 1) := by decide +kernel
theorem dX7_isImage_70 : decode cX7_isImage 70 = .ok (.lcmp, 1) := by decide +kernel
theorem dX7_isImage_71 : decode cX7_isImage 71 = .ok (.ifCond .ne 25, 3) := by decide +kernel
theorem dX7_isImage_74 : decode cX7_isImage 74 = .ok (.aload_n 0, 1) := by decide +kernel
theorem dX7_isImage_75 : decode cX7_isImage 75 = .ok (.getfield 81, 3) := by decide +kernel
theorem dX7_isImage_78 : decode cX7_isImage 78 = .ok (.lload_n 3, 1) := by decide +kernel
theorem dX7_isImage_79 : decode cX7_isImage 79 = .ok (.lcmp, 1) := by decide +kernel
theorem dX7_isImage_80 : decode cX7_isImage 80 = .ok (.ifCond .ne 16, 3) := by decide +kernel
theorem dX7_isImage_83 : decode cX7_isImage 83 = .ok (.aload_n 0, 1) := by decide +kernel
theorem dX7_isImage_84 : decode cX7_isImage 84 = .ok (.iload 5, 2) := by decide +kernel
theorem dX7_isImage_86 : decode cX7_isImage 86 = .ok (.invokevirtual 90, 3) := by decide +kernel
theorem dX7_isImage_89 : decode cX7_isImage 89 = .ok (.ifCond .eq 7, 3) := by decide +kernel
theorem dX7_isImage_92 : decode cX7_isImage 92 = .ok (.iconst 1, 1) := by decide +kernel
theorem dX7_isImage_93 : decode cX7_isImage 93 = .ok (.goto 4, 3) := by decide +kernel
theorem dX7_isImage_96 : decode cX7_isImage 96 = .ok (.iconst 0, 1) := by decide +kernel
theorem dX7_isImage_97 : decode cX7_isImage 97 = .ok (.ireturn, 1) := by decide +kernel
theorem dX7_image_0 : decode cX7_image 0 = .ok (.aload_n 0, 1) := by decide +kernel
theorem dX7_image_1 : decode cX7_image 1 = .ok (.iconst 0, 1) := by decide +kernel
theorem dX7_image_2 : decode cX7_image 2 = .ok (.putfield 61, 3) := by decide +kernel
theorem dX7_image_5 : decode cX7_image 5 = .ok (.aload_n 0, 1) := by decide +kernel
theorem dX7_image_6 : decode cX7_image 6 = .ok (.iload_n 1, 1) := by decide +kernel
theorem dX7_image_7 : decode cX7_image 7 = .ok (.invokevirtual 90, 3) := by decide +kernel
theorem dX7_image_10 : decode cX7_image 10 = .ok (.ifCond .ne 5, 3) := by decide +kernel
theorem dX7_image_13 : decode cX7_image 13 = .ok (.lconst 0, 1) := by decide +kernel
theorem dX7_image_14 : decode cX7_image 14 = .ok (.lreturn, 1) := by decide +kernel
theorem dX7_image_15 : decode cX7_image 15 = .ok (.aload_n 0, 1) := by decide +kernel
theorem dX7_image_16 : decode cX7_image 16 = .ok (.iload_n 1, 1) := by decide +kernel
theorem dX7_image_17 : decode cX7_image 17 = .ok (.invokevirtual 87, 3) := by decide +kernel
theorem dX7_image_20 : decode cX7_image 20 = .ok (.iload_n 2, 1) := by decide +kernel
theorem dX7_image_21 : decode cX7_image 21 = .ok (.ifCond .eq 10, 3) := by decide +kernel
theorem dX7_image_24 : decode cX7_image 24 = .ok (.aload_n 0, 1) := by decide +kernel
theorem dX7_image_25 : decode cX7_image 25 = .ok (.getfield 81, 3) := by decide +kernel
theorem dX7_image_28 : decode cX7_image 28 = .ok (.goto 7, 3) := by decide +kernel
theorem dX7_image_31 : decode cX7_image 31 = .ok (.aload_n 0, 1) := by decide +kernel
theorem dX7_image_32 : decode cX7_image 32 = .ok (.getfield 78, 3) := by decide +kernel
theorem dX7_image_35 : decode cX7_image 35 = .ok (.lreturn, 1) := by decide +kernel
theorem dX7_address_0 : decode cX7_address 0 = .ok (.aload_n 0, 1) := by decide +kernel
theorem dX7_address_1 : decode cX7_address 1 = .ok (.iconst 0, 1) := by decide +kernel
theorem dX7_address_2 : decode cX7_address 2 = .ok (.putfield 61, 3) := by decide +kernel
theorem dX7_address_5 : decode cX7_address 5 = .ok (.aload_n 0, 1) := by decide +kernel
theorem dX7_address_6 : decode cX7_address 6 = .ok (.lload_n 1, 1) := by decide +kernel
theorem dX7_address_7 : decode cX7_address 7 = .ok (.lload_n 3, 1) := by decide +kernel
theorem dX7_address_8 : decode cX7_address 8 = .ok (.invokevirtual 94, 3) := by decide +kernel
theorem dX7_address_11 : decode cX7_address 11 = .ok (.ifCond .eq 15, 3) := by decide +kernel
theorem dX7_address_14 : decode cX7_address 14 = .ok (.aload_n 0, 1) := by decide +kernel
theorem dX7_address_15 : decode cX7_address 15 = .ok (.getfield 84, 3) := by decide +kernel
theorem dX7_address_18 : decode cX7_address 18 = .ok (.i2l, 1) := by decide +kernel
theorem dX7_address_19 : decode cX7_address 19 = .ok (.ldc2_w 98, 3) := by decide +kernel
theorem dX7_address_22 : decode cX7_address 22 = .ok (.land, 1) := by decide +kernel
theorem dX7_address_23 : decode cX7_address 23 = .ok (.goto 6, 3) := by decide +kernel
theorem dX7_address_26 : decode cX7_address 26 = .ok (.ldc2_w 100, 3) := by decide +kernel
theorem dX7_address_29 : decode cX7_address 29 = .ok (.lreturn, 1) := by decide +kernel
theorem dX7_word_0 : decode cX7_word 0 = .ok (.aload_n 0, 1) := by decide +kernel
theorem dX7_word_1 : decode cX7_word 1 = .ok (.dup, 1) := by decide +kernel
theorem dX7_word_2 : decode cX7_word 2 = .ok (.getfield 102, 3) := by decide +kernel
theorem dX7_word_5 : decode cX7_word 5 = .ok (.iload_n 1, 1) := by decide +kernel
theorem dX7_word_6 : decode cX7_word 6 = .ok (.i2l, 1) := by decide +kernel
theorem dX7_word_7 : decode cX7_word 7 = .ok (.ladd, 1) := by decide +kernel
theorem dX7_word_8 : decode cX7_word 8 = .ok (.putfield 102, 3) := by decide +kernel
theorem dX7_word_11 : decode cX7_word 11 = .ok (.aload_n 0, 1) := by decide +kernel
theorem dX7_word_12 : decode cX7_word 12 = .ok (.getfield 102, 3) := by decide +kernel
theorem dX7_word_15 : decode cX7_word 15 = .ok (.ldc2_w 105, 3) := by decide +kernel
theorem dX7_word_18 : decode cX7_word 18 = .ok (.lcmp, 1) := by decide +kernel
theorem dX7_word_19 : decode cX7_word 19 = .ok (.ifCond .le 26, 3) := by decide +kernel
theorem dX7_word_22 : decode cX7_word 22 = .ok (.aload_n 0, 1) := by decide +kernel
theorem dX7_word_23 : decode cX7_word 23 = .ok (.aload_n 0, 1) := by decide +kernel
theorem dX7_word_24 : decode cX7_word 24 = .ok (.getfield 102, 3) := by decide +kernel
theorem dX7_word_27 : decode cX7_word 27 = .ok (.ldc2_w 105, 3) := by decide +kernel
theorem dX7_word_30 : decode cX7_word 30 = .ok (.land, 1) := by decide +kernel
theorem dX7_word_31 : decode cX7_word 31 = .ok (.aload_n 0, 1) := by decide +kernel
theorem dX7_word_32 : decode cX7_word 32 = .ok (.getfield 102, 3) := by decide +kernel
theorem dX7_word_35 : decode cX7_word 35 = .ok (.bipush 16, 2) := by decide +kernel
theorem dX7_word_37 : decode cX7_word 37 = .ok (.lshr, 1) := by decide +kernel
theorem dX7_word_38 : decode cX7_word 38 = .ok (.ladd, 1) := by decide +kernel
theorem dX7_word_39 : decode cX7_word 39 = .ok (.putfield 102, 3) := by decide +kernel
theorem dX7_word_42 : decode cX7_word 42 = .ok (.goto (-31), 3) := by decide +kernel
theorem dX7_word_45 : decode cX7_word 45 = .ok (.return_, 1) := by decide +kernel
theorem dX7_turned_0 : decode cX7_turned 0 = .ok (.aload_n 0, 1) := by decide +kernel
theorem dX7_turned_1 : decode cX7_turned 1 = .ok (.iload_n 1, 1) := by decide +kernel
theorem dX7_turned_2 : decode cX7_turned 2 = .ok (.iconst (-1), 1) := by decide +kernel
theorem dX7_turned_3 : decode cX7_turned 3 = .ok (.ixor, 1) := by decide +kernel
theorem dX7_turned_4 : decode cX7_turned 4 = .ok (.ldc 107, 2) := by decide +kernel
theorem dX7_turned_6 : decode cX7_turned 6 = .ok (.iand, 1) := by decide +kernel
theorem dX7_turned_7 : decode cX7_turned 7 = .ok (.invokevirtual 108, 3) := by decide +kernel
theorem dX7_turned_10 : decode cX7_turned 10 = .ok (.return_, 1) := by decide +kernel
theorem dX7_words_0 : decode cX7_words 0 = .ok (.iload_n 2, 1) := by decide +kernel
theorem dX7_words_1 : decode cX7_words 1 = .ok (.istore 4, 2) := by decide +kernel
theorem dX7_words_3 : decode cX7_words 3 = .ok (.iload 4, 2) := by decide +kernel
theorem dX7_words_5 : decode cX7_words 5 = .ok (.iload_n 3, 1) := by decide +kernel
theorem dX7_words_6 : decode cX7_words 6 = .ok (.if_icmp .ge 47, 3) := by decide +kernel
theorem dX7_words_9 : decode cX7_words 9 = .ok (.aload_n 0, 1) := by decide +kernel
theorem dX7_words_10 : decode cX7_words 10 = .ok (.aload_n 1, 1) := by decide +kernel
theorem dX7_words_11 : decode cX7_words 11 = .ok (.iload 4, 2) := by decide +kernel
theorem dX7_words_13 : decode cX7_words 13 = .ok (.baload, 1) := by decide +kernel
theorem dX7_words_14 : decode cX7_words 14 = .ok (.sipush 255, 3) := by decide +kernel
theorem dX7_words_17 : decode cX7_words 17 = .ok (.iand, 1) := by decide +kernel
theorem dX7_words_18 : decode cX7_words 18 = .ok (.bipush 8, 2) := by decide +kernel
theorem dX7_words_20 : decode cX7_words 20 = .ok (.ishl, 1) := by decide +kernel
theorem dX7_words_21 : decode cX7_words 21 = .ok (.iload 4, 2) := by decide +kernel
theorem dX7_words_23 : decode cX7_words 23 = .ok (.iconst 1, 1) := by decide +kernel
theorem dX7_words_24 : decode cX7_words 24 = .ok (.iadd, 1) := by decide +kernel
theorem dX7_words_25 : decode cX7_words 25 = .ok (.iload_n 3, 1) := by decide +kernel
theorem dX7_words_26 : decode cX7_words 26 = .ok (.if_icmp .ge 16, 3) := by decide +kernel
theorem dX7_words_29 : decode cX7_words 29 = .ok (.aload_n 1, 1) := by decide +kernel
theorem dX7_words_30 : decode cX7_words 30 = .ok (.iload 4, 2) := by decide +kernel
theorem dX7_words_32 : decode cX7_words 32 = .ok (.iconst 1, 1) := by decide +kernel
theorem dX7_words_33 : decode cX7_words 33 = .ok (.iadd, 1) := by decide +kernel
theorem dX7_words_34 : decode cX7_words 34 = .ok (.baload, 1) := by decide +kernel
theorem dX7_words_35 : decode cX7_words 35 = .ok (.sipush 255, 3) := by decide +kernel
theorem dX7_words_38 : decode cX7_words 38 = .ok (.iand, 1) := by decide +kernel
theorem dX7_words_39 : decode cX7_words 39 = .ok (.goto 4, 3) := by decide +kernel
theorem dX7_words_42 : decode cX7_words 42 = .ok (.iconst 0, 1) := by decide +kernel
theorem dX7_words_43 : decode cX7_words 43 = .ok (.ior, 1) := by decide +kernel
theorem dX7_words_44 : decode cX7_words 44 = .ok (.invokevirtual 108, 3) := by decide +kernel
theorem dX7_words_47 : decode cX7_words 47 = .ok (.iinc 4 2, 3) := by decide +kernel
theorem dX7_words_50 : decode cX7_words 50 = .ok (.goto (-47), 3) := by decide +kernel
theorem dX7_words_53 : decode cX7_words 53 = .ok (.return_, 1) := by decide +kernel
theorem dX7_longs_0 : decode cX7_longs 0 = .ok (.bipush 48, 2) := by decide +kernel
theorem dX7_longs_2 : decode cX7_longs 2 = .ok (.istore 4, 2) := by decide +kernel
theorem dX7_longs_4 : decode cX7_longs 4 = .ok (.iload 4, 2) := by decide +kernel
theorem dX7_longs_6 : decode cX7_longs 6 = .ok (.ifCond .lt 34, 3) := by decide +kernel
theorem dX7_longs_9 : decode cX7_longs 9 = .ok (.aload_n 0, 1) := by decide +kernel
theorem dX7_longs_10 : decode cX7_longs 10 = .ok (.iload_n 3, 1) := by decide +kernel
theorem dX7_longs_11 : decode cX7_longs 11 = .ok (.ifCond .eq 11, 3) := by decide +kernel
theorem dX7_longs_14 : decode cX7_longs 14 = .ok (.lload_n 1, 1) := by decide +kernel
theorem dX7_longs_15 : decode cX7_longs 15 = .ok (.ldc2_w 100, 3) := by decide +kernel
theorem dX7_longs_18 : decode cX7_longs 18 = .ok (.lxor, 1) := by decide +kernel
theorem dX7_longs_19 : decode cX7_longs 19 = .ok (.goto 4, 3) := by decide +kernel
theorem dX7_longs_22 : decode cX7_longs 22 = .ok (.lload_n 1, 1) := by decide +kernel
theorem dX7_longs_23 : decode cX7_longs 23 = .ok (.iload 4, 2) := by decide +kernel
theorem dX7_longs_25 : decode cX7_longs 25 = .ok (.lushr, 1) := by decide +kernel
theorem dX7_longs_26 : decode cX7_longs 26 = .ok (.ldc2_w 105, 3) := by decide +kernel
theorem dX7_longs_29 : decode cX7_longs 29 = .ok (.land, 1) := by decide +kernel
theorem dX7_longs_30 : decode cX7_longs 30 = .ok (.l2i, 1) := by decide +kernel
theorem dX7_longs_31 : decode cX7_longs 31 = .ok (.invokevirtual 108, 3) := by decide +kernel
theorem dX7_longs_34 : decode cX7_longs 34 = .ok (.iinc 4 (-16), 3) := by decide +kernel
theorem dX7_longs_37 : decode cX7_longs 37 = .ok (.goto (-33), 3) := by decide +kernel
theorem dX7_longs_40 : decode cX7_longs 40 = .ok (.return_, 1) := by decide +kernel
theorem dX7_ints_0 : decode cX7_ints 0 = .ok (.aload_n 0, 1) := by decide +kernel
theorem dX7_ints_1 : decode cX7_ints 1 = .ok (.iload_n 2, 1) := by decide +kernel
theorem dX7_ints_2 : decode cX7_ints 2 = .ok (.ifCond .eq 9, 3) := by decide +kernel
theorem dX7_ints_5 : decode cX7_ints 5 = .ok (.iload_n 1, 1) := by decide +kernel
theorem dX7_ints_6 : decode cX7_ints 6 = .ok (.iconst (-1), 1) := by decide +kernel
theorem dX7_ints_7 : decode cX7_ints 7 = .ok (.ixor, 1) := by decide +kernel
theorem dX7_ints_8 : decode cX7_ints 8 = .ok (.goto 4, 3) := by decide +kernel
theorem dX7_ints_11 : decode cX7_ints 11 = .ok (.iload_n 1, 1) := by decide +kernel
theorem dX7_ints_12 : decode cX7_ints 12 = .ok (.bipush 16, 2) := by decide +kernel
theorem dX7_ints_14 : decode cX7_ints 14 = .ok (.iushr, 1) := by decide +kernel
theorem dX7_ints_15 : decode cX7_ints 15 = .ok (.ldc 107, 2) := by decide +kernel
theorem dX7_ints_17 : decode cX7_ints 17 = .ok (.iand, 1) := by decide +kernel
theorem dX7_ints_18 : decode cX7_ints 18 = .ok (.invokevirtual 108, 3) := by decide +kernel
theorem dX7_ints_21 : decode cX7_ints 21 = .ok (.aload_n 0, 1) := by decide +kernel
theorem dX7_ints_22 : decode cX7_ints 22 = .ok (.iload_n 2, 1) := by decide +kernel
theorem dX7_ints_23 : decode cX7_ints 23 = .ok (.ifCond .eq 9, 3) := by decide +kernel
theorem dX7_ints_26 : decode cX7_ints 26 = .ok (.iload_n 1, 1) := by decide +kernel
theorem dX7_ints_27 : decode cX7_ints 27 = .ok (.iconst (-1), 1) := by decide +kernel
theorem dX7_ints_28 : decode cX7_ints 28 = .ok (.ixor, 1) := by decide +kernel
theorem dX7_ints_29 : decode cX7_ints 29 = .ok (.goto 4, 3) := by decide +kernel
theorem dX7_ints_32 : decode cX7_ints 32 = .ok (.iload_n 1, 1) := by decide +kernel
theorem dX7_ints_33 : decode cX7_ints 33 = .ok (.ldc 107, 2) := by decide +kernel
theorem dX7_ints_35 : decode cX7_ints 35 = .ok (.iand, 1) := by decide +kernel
theorem dX7_ints_36 : decode cX7_ints 36 = .ok (.invokevirtual 108, 3) := by decide +kernel
theorem dX7_ints_39 : decode cX7_ints 39 = .ok (.return_, 1) := by decide +kernel
theorem dX7_checksum_0 : decode cX7_checksum 0 = .ok (.aload_n 0, 1) := by decide +kernel
theorem dX7_checksum_1 : decode cX7_checksum 1 = .ok (.getfield 102, 3) := by decide +kernel
theorem dX7_checksum_4 : decode cX7_checksum 4 = .ok (.ldc2_w 100, 3) := by decide +kernel
theorem dX7_checksum_7 : decode cX7_checksum 7 = .ok (.lxor, 1) := by decide +kernel
theorem dX7_checksum_8 : decode cX7_checksum 8 = .ok (.ldc2_w 105, 3) := by decide +kernel
theorem dX7_checksum_11 : decode cX7_checksum 11 = .ok (.land, 1) := by decide +kernel
theorem dX7_checksum_12 : decode cX7_checksum 12 = .ok (.l2i, 1) := by decide +kernel
theorem dX7_checksum_13 : decode cX7_checksum 13 = .ok (.ireturn, 1) := by decide +kernel
theorem dX7_octetAt_0 : decode cX7_octetAt 0 = .ok (.aload_n 0, 1) := by decide +kernel
theorem dX7_octetAt_1 : decode cX7_octetAt 1 = .ok (.iload_n 1, 1) := by decide +kernel
theorem dX7_octetAt_2 : decode cX7_octetAt 2 = .ok (.baload, 1) := by decide +kernel
theorem dX7_octetAt_3 : decode cX7_octetAt 3 = .ok (.sipush 255, 3) := by decide +kernel
theorem dX7_octetAt_6 : decode cX7_octetAt 6 = .ok (.iand, 1) := by decide +kernel
theorem dX7_octetAt_7 : decode cX7_octetAt 7 = .ok (.ireturn, 1) := by decide +kernel
theorem dX7_twoAt_0 : decode cX7_twoAt 0 = .ok (.aload_n 0, 1) := by decide +kernel
theorem dX7_twoAt_1 : decode cX7_twoAt 1 = .ok (.iload_n 1, 1) := by decide +kernel
theorem dX7_twoAt_2 : decode cX7_twoAt 2 = .ok (.invokestatic 111, 3) := by decide +kernel
theorem dX7_twoAt_5 : decode cX7_twoAt 5 = .ok (.bipush 8, 2) := by decide +kernel
theorem dX7_twoAt_7 : decode cX7_twoAt 7 = .ok (.ishl, 1) := by decide +kernel
theorem dX7_twoAt_8 : decode cX7_twoAt 8 = .ok (.aload_n 0, 1) := by decide +kernel
theorem dX7_twoAt_9 : decode cX7_twoAt 9 = .ok (.iload_n 1, 1) := by decide +kernel
theorem dX7_twoAt_10 : decode cX7_twoAt 10 = .ok (.iconst 1, 1) := by decide +kernel
