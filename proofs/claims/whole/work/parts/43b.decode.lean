theorem dX6_count_57 : decode cX6_count 57 = .ok (.getfield 14, 3) := by decide +kernel
theorem dX6_count_60 : decode cX6_count 60 = .ok (.getfield 89, 3) := by decide +kernel
theorem dX6_count_63 : decode cX6_count 63 = .ok (.ireturn, 1) := by decide +kernel
theorem dX6_count_64 : decode cX6_count 64 = .ok (.aload_n 0, 1) := by decide +kernel
theorem dX6_count_65 : decode cX6_count 65 = .ok (.getfield 86, 3) := by decide +kernel
theorem dX6_count_68 : decode cX6_count 68 = .ok (.ireturn, 1) := by decide +kernel
theorem dX6_count_69 : decode cX6_count 69 = .ok (.aload_n 0, 1) := by decide +kernel
theorem dX6_count_70 : decode cX6_count 70 = .ok (.getfield 73, 3) := by decide +kernel
theorem dX6_count_73 : decode cX6_count 73 = .ok (.ireturn, 1) := by decide +kernel
theorem dX6_count_74 : decode cX6_count 74 = .ok (.aload_n 0, 1) := by decide +kernel
theorem dX6_count_75 : decode cX6_count 75 = .ok (.getfield 76, 3) := by decide +kernel
theorem dX6_count_78 : decode cX6_count 78 = .ok (.ireturn, 1) := by decide +kernel
theorem dX6_count_79 : decode cX6_count 79 = .ok (.aload_n 0, 1) := by decide +kernel
theorem dX6_count_80 : decode cX6_count 80 = .ok (.getfield 31, 3) := by decide +kernel
theorem dX6_count_83 : decode cX6_count 83 = .ok (.getfield 120, 3) := by decide +kernel
theorem dX6_count_86 : decode cX6_count 86 = .ok (.ireturn, 1) := by decide +kernel
theorem dX6_count_87 : decode cX6_count 87 = .ok (.iconst (-1), 1) := by decide +kernel
theorem dX6_count_88 : decode cX6_count 88 = .ok (.ireturn, 1) := by decide +kernel
theorem dX6_finish_0 : decode cX6_finish 0 = .ok (.aload_n 0, 1) := by decide +kernel
theorem dX6_finish_1 : decode cX6_finish 1 = .ok (.getfield 14, 3) := by decide +kernel
theorem dX6_finish_4 : decode cX6_finish 4 = .ok (.iconst 0, 1) := by decide +kernel
theorem dX6_finish_5 : decode cX6_finish 5 = .ok (.putfield 89, 3) := by decide +kernel
theorem dX6_finish_8 : decode cX6_finish 8 = .ok (.iload_n 1, 1) := by decide +kernel
theorem dX6_finish_9 : decode cX6_finish 9 = .ok (.ifCond .lt 22, 3) := by decide +kernel
theorem dX6_finish_12 : decode cX6_finish 12 = .ok (.iload_n 1, 1) := by decide +kernel
theorem dX6_finish_13 : decode cX6_finish 13 = .ok (.aload_n 0, 1) := by decide +kernel
theorem dX6_finish_14 : decode cX6_finish 14 = .ok (.getfield 55, 3) := by decide +kernel
theorem dX6_finish_17 : decode cX6_finish 17 = .ok (.arraylength, 1) := by decide +kernel
theorem dX6_finish_18 : decode cX6_finish 18 = .ok (.if_icmp .ge 13, 3) := by decide +kernel
theorem dX6_finish_21 : decode cX6_finish 21 = .ok (.aload_n 0, 1) := by decide +kernel
theorem dX6_finish_22 : decode cX6_finish 22 = .ok (.getfield 55, 3) := by decide +kernel
theorem dX6_finish_25 : decode cX6_finish 25 = .ok (.iload_n 1, 1) := by decide +kernel
theorem dX6_finish_26 : decode cX6_finish 26 = .ok (.dup2, 1) := by decide +kernel
theorem dX6_finish_27 : decode cX6_finish 27 = .ok (.iaload, 1) := by decide +kernel
theorem dX6_finish_28 : decode cX6_finish 28 = .ok (.iconst 1, 1) := by decide +kernel
theorem dX6_finish_29 : decode cX6_finish 29 = .ok (.iadd, 1) := by decide +kernel
theorem dX6_finish_30 : decode cX6_finish 30 = .ok (.iastore, 1) := by decide +kernel
theorem dX6_finish_31 : decode cX6_finish 31 = .ok (.return_, 1) := by decide +kernel
theorem dX6_verdictOnFour_0 : decode cX6_verdictOnFour 0 = .ok (.aload_n 1, 1) := by decide +kernel
theorem dX6_verdictOnFour_1 : decode cX6_verdictOnFour 1 = .ok (.aload_n 0, 1) := by decide +kernel
theorem dX6_verdictOnFour_2 : decode cX6_verdictOnFour 2 = .ok (.getfield 14, 3) := by decide +kernel
theorem dX6_verdictOnFour_5 : decode cX6_verdictOnFour 5 = .ok (.invokevirtual 186, 3) := by decide +kernel
theorem dX6_verdictOnFour_8 : decode cX6_verdictOnFour 8 = .ok (.ifCond .ne 5, 3) := by decide +kernel
theorem dX6_verdictOnFour_11 : decode cX6_verdictOnFour 11 = .ok (.iconst 1, 1) := by decide +kernel
theorem dX6_verdictOnFour_12 : decode cX6_verdictOnFour 12 = .ok (.ireturn, 1) := by decide +kernel
theorem dX6_verdictOnFour_13 : decode cX6_verdictOnFour 13 = .ok (.aload_n 0, 1) := by decide +kernel
theorem dX6_verdictOnFour_14 : decode cX6_verdictOnFour 14 = .ok (.getfield 31, 3) := by decide +kernel
theorem dX6_verdictOnFour_17 : decode cX6_verdictOnFour 17 = .ok (.aload_n 1, 1) := by decide +kernel
theorem dX6_verdictOnFour_18 : decode cX6_verdictOnFour 18 = .ok (.getfield 190, 3) := by decide +kernel
theorem dX6_verdictOnFour_21 : decode cX6_verdictOnFour 21 = .ok (.invokevirtual 171, 3) := by decide +kernel
theorem dX6_verdictOnFour_24 : decode cX6_verdictOnFour 24 = .ok (.ifCond .ne 5, 3) := by decide +kernel
theorem dX6_verdictOnFour_27 : decode cX6_verdictOnFour 27 = .ok (.iconst 2, 1) := by decide +kernel
theorem dX6_verdictOnFour_28 : decode cX6_verdictOnFour 28 = .ok (.ireturn, 1) := by decide +kernel
theorem dX6_verdictOnFour_29 : decode cX6_verdictOnFour 29 = .ok (.aload_n 0, 1) := by decide +kernel
theorem dX6_verdictOnFour_30 : decode cX6_verdictOnFour 30 = .ok (.getfield 31, 3) := by decide +kernel
theorem dX6_verdictOnFour_33 : decode cX6_verdictOnFour 33 = .ok (.aload_n 1, 1) := by decide +kernel
theorem dX6_verdictOnFour_34 : decode cX6_verdictOnFour 34 = .ok (.getfield 193, 3) := by decide +kernel
theorem dX6_verdictOnFour_37 : decode cX6_verdictOnFour 37 = .ok (.invokevirtual 171, 3) := by decide +kernel
theorem dX6_verdictOnFour_40 : decode cX6_verdictOnFour 40 = .ok (.ifCond .ne 5, 3) := by decide +kernel
theorem dX6_verdictOnFour_43 : decode cX6_verdictOnFour 43 = .ok (.iconst 3, 1) := by decide +kernel
theorem dX6_verdictOnFour_44 : decode cX6_verdictOnFour 44 = .ok (.ireturn, 1) := by decide +kernel
theorem dX6_verdictOnFour_45 : decode cX6_verdictOnFour 45 = .ok (.aload_n 1, 1) := by decide +kernel
theorem dX6_verdictOnFour_46 : decode cX6_verdictOnFour 46 = .ok (.getfield 196, 3) := by decide +kernel
theorem dX6_verdictOnFour_49 : decode cX6_verdictOnFour 49 = .ok (.ifCond .eq 13, 3) := by decide +kernel
theorem dX6_verdictOnFour_52 : decode cX6_verdictOnFour 52 = .ok (.aload_n 0, 1) := by decide +kernel
theorem dX6_verdictOnFour_53 : decode cX6_verdictOnFour 53 = .ok (.aload_n 1, 1) := by decide +kernel
theorem dX6_verdictOnFour_54 : decode cX6_verdictOnFour 54 = .ok (.sipush 773, 3) := by decide +kernel
theorem dX6_verdictOnFour_57 : decode cX6_verdictOnFour 57 = .ok (.iconst 0, 1) := by decide +kernel
theorem dX6_verdictOnFour_58 : decode cX6_verdictOnFour 58 = .ok (.invokevirtual 199, 3) := by decide +kernel
theorem dX6_verdictOnFour_61 : decode cX6_verdictOnFour 61 = .ok (.ireturn, 1) := by decide +kernel
theorem dX6_verdictOnFour_62 : decode cX6_verdictOnFour 62 = .ok (.aload_n 1, 1) := by decide +kernel
theorem dX6_verdictOnFour_63 : decode cX6_verdictOnFour 63 = .ok (.getfield 203, 3) := by decide +kernel
theorem dX6_verdictOnFour_66 : decode cX6_verdictOnFour 66 = .ok (.iconst 1, 1) := by decide +kernel
theorem dX6_verdictOnFour_67 : decode cX6_verdictOnFour 67 = .ok (.if_icmp .gt 13, 3) := by decide +kernel
theorem dX6_verdictOnFour_70 : decode cX6_verdictOnFour 70 = .ok (.aload_n 0, 1) := by decide +kernel
theorem dX6_verdictOnFour_71 : decode cX6_verdictOnFour 71 = .ok (.aload_n 1, 1) := by decide +kernel
theorem dX6_verdictOnFour_72 : decode cX6_verdictOnFour 72 = .ok (.sipush 2816, 3) := by decide +kernel
theorem dX6_verdictOnFour_75 : decode cX6_verdictOnFour 75 = .ok (.iconst 0, 1) := by decide +kernel
theorem dX6_verdictOnFour_76 : decode cX6_verdictOnFour 76 = .ok (.invokevirtual 199, 3) := by decide +kernel
theorem dX6_verdictOnFour_79 : decode cX6_verdictOnFour 79 = .ok (.ireturn, 1) := by decide +kernel
theorem dX6_verdictOnFour_80 : decode cX6_verdictOnFour 80 = .ok (.aload_n 0, 1) := by decide +kernel
theorem dX6_verdictOnFour_81 : decode cX6_verdictOnFour 81 = .ok (.aload_n 1, 1) := by decide +kernel
theorem dX6_verdictOnFour_82 : decode cX6_verdictOnFour 82 = .ok (.invokevirtual 206, 3) := by decide +kernel
theorem dX6_verdictOnFour_85 : decode cX6_verdictOnFour 85 = .ok (.istore_n 2, 1) := by decide +kernel
theorem dX6_verdictOnFour_86 : decode cX6_verdictOnFour 86 = .ok (.iload_n 2, 1) := by decide +kernel
theorem dX6_verdictOnFour_87 : decode cX6_verdictOnFour 87 = .ok (.ifCond .eq 5, 3) := by decide +kernel
theorem dX6_verdictOnFour_90 : decode cX6_verdictOnFour 90 = .ok (.iload_n 2, 1) := by decide +kernel
theorem dX6_verdictOnFour_91 : decode cX6_verdictOnFour 91 = .ok (.ireturn, 1) := by decide +kernel
theorem dX6_verdictOnFour_92 : decode cX6_verdictOnFour 92 = .ok (.aload_n 1, 1) := by decide +kernel
theorem dX6_verdictOnFour_93 : decode cX6_verdictOnFour 93 = .ok (.aload_n 0, 1) := by decide +kernel
theorem dX6_verdictOnFour_94 : decode cX6_verdictOnFour 94 = .ok (.aload_n 1, 1) := by decide +kernel
theorem dX6_verdictOnFour_95 : decode cX6_verdictOnFour 95 = .ok (.invokevirtual 209, 3) := by decide +kernel
theorem dX6_verdictOnFour_98 : decode cX6_verdictOnFour 98 = .ok (.putfield 213, 3) := by decide +kernel
theorem dX6_verdictOnFour_101 : decode cX6_verdictOnFour 101 = .ok (.aload_n 1, 1) := by decide +kernel
theorem dX6_verdictOnFour_102 : decode cX6_verdictOnFour 102 = .ok (.getfield 216, 3) := by decide +kernel
theorem dX6_verdictOnFour_105 : decode cX6_verdictOnFour 105 = .ok (.iconst 1, 1) := by decide +kernel
theorem dX6_verdictOnFour_106 : decode cX6_verdictOnFour 106 = .ok (.if_icmp .ne 33, 3) := by decide +kernel
theorem dX6_verdictOnFour_109 : decode cX6_verdictOnFour 109 = .ok (.aload_n 0, 1) := by decide +kernel
theorem dX6_verdictOnFour_110 : decode cX6_verdictOnFour 110 = .ok (.getfield 14, 3) := by decide +kernel
theorem dX6_verdictOnFour_113 : decode cX6_verdictOnFour 113 = .ok (.aload_n 1, 1) := by decide +kernel
theorem dX6_verdictOnFour_114 : decode cX6_verdictOnFour 114 = .ok (.getfield 219, 3) := by decide +kernel
theorem dX6_verdictOnFour_117 : decode cX6_verdictOnFour 117 = .ok (.invokevirtual 158, 3) := by decide +kernel
theorem dX6_verdictOnFour_120 : decode cX6_verdictOnFour 120 = .ok (.invokestatic 222, 3) := by decide +kernel
theorem dX6_verdictOnFour_123 : decode cX6_verdictOnFour 123 = .ok (.ifCond .eq 16, 3) := by decide +kernel
theorem dX6_verdictOnFour_126 : decode cX6_verdictOnFour 126 = .ok (.aload_n 0, 1) := by decide +kernel
theorem dX6_verdictOnFour_127 : decode cX6_verdictOnFour 127 = .ok (.aload_n 1, 1) := by decide +kernel
theorem dX6_verdictOnFour_128 : decode cX6_verdictOnFour 128 = .ok (.aload_n 0, 1) := by decide +kernel
theorem dX6_verdictOnFour_129 : decode cX6_verdictOnFour 129 = .ok (.getfield 42, 3) := by decide +kernel
theorem dX6_verdictOnFour_132 : decode cX6_verdictOnFour 132 = .ok (.invokevirtual 225, 3) := by decide +kernel
theorem dX6_verdictOnFour_135 : decode cX6_verdictOnFour 135 = .ok (.istore_n 2, 1) := by decide +kernel
theorem dX6_verdictOnFour_136 : decode cX6_verdictOnFour 136 = .ok (.goto 8, 3) := by decide +kernel
theorem dX6_verdictOnFour_139 : decode cX6_verdictOnFour 139 = .ok (.aload_n 0, 1) := by decide +kernel
theorem dX6_verdictOnFour_140 : decode cX6_verdictOnFour 140 = .ok (.aload_n 1, 1) := by decide +kernel
theorem dX6_verdictOnFour_141 : decode cX6_verdictOnFour 141 = .ok (.invokevirtual 229, 3) := by decide +kernel
theorem dX6_verdictOnFour_144 : decode cX6_verdictOnFour 144 = .ok (.iload_n 2, 1) := by decide +kernel
theorem dX6_verdictOnFour_145 : decode cX6_verdictOnFour 145 = .ok (.ifCond .eq 5, 3) := by decide +kernel
theorem dX6_verdictOnFour_148 : decode cX6_verdictOnFour 148 = .ok (.iload_n 2, 1) := by decide +kernel
theorem dX6_verdictOnFour_149 : decode cX6_verdictOnFour 149 = .ok (.ireturn, 1) := by decide +kernel
theorem dX6_verdictOnFour_150 : decode cX6_verdictOnFour 150 = .ok (.aload_n 1, 1) := by decide +kernel
theorem dX6_verdictOnFour_151 : decode cX6_verdictOnFour 151 = .ok (.getfield 233, 3) := by decide +kernel
theorem dX6_verdictOnFour_154 : decode cX6_verdictOnFour 154 = .ok (.ifCond .eq 41, 3) := by decide +kernel
theorem dX6_verdictOnFour_157 : decode cX6_verdictOnFour 157 = .ok (.bipush 40, 2) := by decide +kernel
theorem dX6_verdictOnFour_159 : decode cX6_verdictOnFour 159 = .ok (.aload_n 1, 1) := by decide +kernel
theorem dX6_verdictOnFour_160 : decode cX6_verdictOnFour 160 = .ok (.invokevirtual 236, 3) := by decide +kernel
theorem dX6_verdictOnFour_163 : decode cX6_verdictOnFour 163 = .ok (.iadd, 1) := by decide +kernel
theorem dX6_verdictOnFour_164 : decode cX6_verdictOnFour 164 = .ok (.aload_n 0, 1) := by decide +kernel
theorem dX6_verdictOnFour_165 : decode cX6_verdictOnFour 165 = .ok (.getfield 18, 3) := by decide +kernel
theorem dX6_verdictOnFour_168 : decode cX6_verdictOnFour 168 = .ok (.getfield 89, 3) := by decide +kernel
theorem dX6_verdictOnFour_171 : decode cX6_verdictOnFour 171 = .ok (.iadd, 1) := by decide +kernel
theorem dX6_verdictOnFour_172 : decode cX6_verdictOnFour 172 = .ok (.aload_n 0, 1) := by decide +kernel
theorem dX6_verdictOnFour_173 : decode cX6_verdictOnFour 173 = .ok (.getfield 76, 3) := by decide +kernel
theorem dX6_verdictOnFour_176 : decode cX6_verdictOnFour 176 = .ok (.if_icmp .le 19, 3) := by decide +kernel
theorem dX6_verdictOnFour_179 : decode cX6_verdictOnFour 179 = .ok (.aload_n 0, 1) := by decide +kernel
theorem dX6_verdictOnFour_180 : decode cX6_verdictOnFour 180 = .ok (.aload_n 1, 1) := by decide +kernel
theorem dX6_verdictOnFour_181 : decode cX6_verdictOnFour 181 = .ok (.sipush 772, 3) := by decide +kernel
theorem dX6_verdictOnFour_184 : decode cX6_verdictOnFour 184 = .ok (.aload_n 0, 1) := by decide +kernel
theorem dX6_verdictOnFour_185 : decode cX6_verdictOnFour 185 = .ok (.getfield 76, 3) := by decide +kernel
theorem dX6_verdictOnFour_188 : decode cX6_verdictOnFour 188 = .ok (.bipush 20, 2) := by decide +kernel
theorem dX6_verdictOnFour_190 : decode cX6_verdictOnFour 190 = .ok (.isub, 1) := by decide +kernel
theorem dX6_verdictOnFour_191 : decode cX6_verdictOnFour 191 = .ok (.invokevirtual 199, 3) := by decide +kernel
theorem dX6_verdictOnFour_194 : decode cX6_verdictOnFour 194 = .ok (.ireturn, 1) := by decide +kernel
theorem dX6_verdictOnFour_195 : decode cX6_verdictOnFour 195 = .ok (.aload_n 0, 1) := by decide +kernel
theorem dX6_verdictOnFour_196 : decode cX6_verdictOnFour 196 = .ok (.aload_n 1, 1) := by decide +kernel
theorem dX6_verdictOnFour_197 : decode cX6_verdictOnFour 197 = .ok (.invokevirtual 240, 3) := by decide +kernel
theorem dX6_verdictOnFour_200 : decode cX6_verdictOnFour 200 = .ok (.iconst 0, 1) := by decide +kernel
theorem dX6_verdictOnFour_201 : decode cX6_verdictOnFour 201 = .ok (.ireturn, 1) := by decide +kernel
theorem dX6_faultOfFour_0 : decode cX6_faultOfFour 0 = .ok (.aload_n 1, 1) := by decide +kernel
theorem dX6_faultOfFour_1 : decode cX6_faultOfFour 1 = .ok (.getfield 216, 3) := by decide +kernel
theorem dX6_faultOfFour_4 : decode cX6_faultOfFour 4 = .ok (.invokestatic 243, 3) := by decide +kernel
theorem dX6_faultOfFour_7 : decode cX6_faultOfFour 7 = .ok (.ifCond .eq 6, 3) := by decide +kernel
theorem dX6_faultOfFour_10 : decode cX6_faultOfFour 10 = .ok (.bipush 6, 2) := by decide +kernel
theorem dX6_faultOfFour_12 : decode cX6_faultOfFour 12 = .ok (.ireturn, 1) := by decide +kernel
theorem dX6_faultOfFour_13 : decode cX6_faultOfFour 13 = .ok (.aload_n 1, 1) := by decide +kernel
theorem dX6_faultOfFour_14 : decode cX6_faultOfFour 14 = .ok (.getfield 216, 3) := by decide +kernel
theorem dX6_faultOfFour_17 : decode cX6_faultOfFour 17 = .ok (.iconst 1, 1) := by decide +kernel
theorem dX6_faultOfFour_18 : decode cX6_faultOfFour 18 = .ok (.if_icmp .ne 12, 3) := by decide +kernel
theorem dX6_faultOfFour_21 : decode cX6_faultOfFour 21 = .ok (.aload_n 1, 1) := by decide +kernel
theorem dX6_faultOfFour_22 : decode cX6_faultOfFour 22 = .ok (.invokevirtual 246, 3) := by decide +kernel
theorem dX6_faultOfFour_25 : decode cX6_faultOfFour 25 = .ok (.ifCond .eq 5, 3) := by decide +kernel
theorem dX6_faultOfFour_28 : decode cX6_faultOfFour 28 = .ok (.iconst 5, 1) := by decide +kernel
theorem dX6_faultOfFour_29 : decode cX6_faultOfFour 29 = .ok (.ireturn, 1) := by decide +kernel
theorem dX6_faultOfFour_30 : decode cX6_faultOfFour 30 = .ok (.aload_n 0, 1) := by decide +kernel
theorem dX6_faultOfFour_31 : decode cX6_faultOfFour 31 = .ok (.aload_n 1, 1) := by decide +kernel
theorem dX6_faultOfFour_32 : decode cX6_faultOfFour 32 = .ok (.aload_n 0, 1) := by decide +kernel
theorem dX6_faultOfFour_33 : decode cX6_faultOfFour 33 = .ok (.getfield 83, 3) := by decide +kernel
theorem dX6_faultOfFour_36 : decode cX6_faultOfFour 36 = .ok (.ifCond .eq 14, 3) := by decide +kernel
theorem dX6_faultOfFour_39 : decode cX6_faultOfFour 39 = .ok (.aload_n 1, 1) := by decide +kernel
theorem dX6_faultOfFour_40 : decode cX6_faultOfFour 40 = .ok (.getfield 250, 3) := by decide +kernel
theorem dX6_faultOfFour_43 : decode cX6_faultOfFour 43 = .ok (.ifCond .ne 7, 3) := by decide +kernel
theorem dX6_faultOfFour_46 : decode cX6_faultOfFour 46 = .ok (.iconst 1, 1) := by decide +kernel
theorem dX6_faultOfFour_47 : decode cX6_faultOfFour 47 = .ok (.goto 4, 3) := by decide +kernel
theorem dX6_faultOfFour_50 : decode cX6_faultOfFour 50 = .ok (.iconst 0, 1) := by decide +kernel
theorem dX6_faultOfFour_51 : decode cX6_faultOfFour 51 = .ok (.invokevirtual 253, 3) := by decide +kernel
theorem dX6_faultOfFour_54 : decode cX6_faultOfFour 54 = .ok (.istore_n 2, 1) := by decide +kernel
theorem dX6_faultOfFour_55 : decode cX6_faultOfFour 55 = .ok (.iload_n 2, 1) := by decide +kernel
theorem dX6_faultOfFour_56 : decode cX6_faultOfFour 56 = .ok (.ifCond .ne 11, 3) := by decide +kernel
theorem dX6_faultOfFour_59 : decode cX6_faultOfFour 59 = .ok (.aload_n 1, 1) := by decide +kernel
theorem dX6_faultOfFour_60 : decode cX6_faultOfFour 60 = .ok (.getfield 216, 3) := by decide +kernel
theorem dX6_faultOfFour_63 : decode cX6_faultOfFour 63 = .ok (.iconst 1, 1) := by decide +kernel
theorem dX6_faultOfFour_64 : decode cX6_faultOfFour 64 = .ok (.if_icmp .eq 5, 3) := by decide +kernel
theorem dX6_faultOfFour_67 : decode cX6_faultOfFour 67 = .ok (.iload_n 2, 1) := by decide +kernel
theorem dX6_faultOfFour_68 : decode cX6_faultOfFour 68 = .ok (.ireturn, 1) := by decide +kernel
theorem dX6_faultOfFour_69 : decode cX6_faultOfFour 69 = .ok (.aload_n 0, 1) := by decide +kernel
theorem dX6_faultOfFour_70 : decode cX6_faultOfFour 70 = .ok (.getfield 14, 3) := by decide +kernel
theorem dX6_faultOfFour_73 : decode cX6_faultOfFour 73 = .ok (.aload_n 1, 1) := by decide +kernel
theorem dX6_faultOfFour_74 : decode cX6_faultOfFour 74 = .ok (.getfield 219, 3) := by decide +kernel
theorem dX6_faultOfFour_77 : decode cX6_faultOfFour 77 = .ok (.invokevirtual 158, 3) := by decide +kernel
theorem dX6_faultOfFour_80 : decode cX6_faultOfFour 80 = .ok (.istore_n 3, 1) := by decide +kernel
theorem dX6_faultOfFour_81 : decode cX6_faultOfFour 81 = .ok (.iload_n 3, 1) := by decide +kernel
theorem dX6_faultOfFour_82 : decode cX6_faultOfFour 82 = .ok (.invokestatic 257, 3) := by decide +kernel
theorem dX6_faultOfFour_85 : decode cX6_faultOfFour 85 = .ok (.ifCond .ne 10, 3) := by decide +kernel
theorem dX6_faultOfFour_88 : decode cX6_faultOfFour 88 = .ok (.iload_n 3, 1) := by decide +kernel
theorem dX6_faultOfFour_89 : decode cX6_faultOfFour 89 = .ok (.invokestatic 222, 3) := by decide +kernel
theorem dX6_faultOfFour_92 : decode cX6_faultOfFour 92 = .ok (.ifCond .eq 7, 3) := by decide +kernel
theorem dX6_faultOfFour_95 : decode cX6_faultOfFour 95 = .ok (.iconst 0, 1) := by decide +kernel
theorem dX6_faultOfFour_96 : decode cX6_faultOfFour 96 = .ok (.goto 5, 3) := by decide +kernel
theorem dX6_faultOfFour_99 : decode cX6_faultOfFour 99 = .ok (.bipush 6, 2) := by decide +kernel
theorem dX6_faultOfFour_101 : decode cX6_faultOfFour 101 = .ok (.ireturn, 1) := by decide +kernel
theorem dX6_neverFromFour_0 : decode cX6_neverFromFour 0 = .ok (.iload_n 0, 1) := by decide +kernel
theorem dX6_neverFromFour_1 : decode cX6_neverFromFour 1 = .ok (.invokestatic 260, 3) := by decide +kernel
theorem dX6_neverFromFour_4 : decode cX6_neverFromFour 4 = .ok (.ifCond .ne 9, 3) := by decide +kernel
theorem dX6_neverFromFour_7 : decode cX6_neverFromFour 7 = .ok (.iload_n 0, 1) := by decide +kernel
theorem dX6_neverFromFour_8 : decode cX6_neverFromFour 8 = .ok (.bipush 58, 2) := by decide +kernel
theorem dX6_neverFromFour_10 : decode cX6_neverFromFour 10 = .ok (.if_icmp .ne 7, 3) := by decide +kernel
theorem dX6_neverFromFour_13 : decode cX6_neverFromFour 13 = .ok (.iconst 1, 1) := by decide +kernel
theorem dX6_neverFromFour_14 : decode cX6_neverFromFour 14 = .ok (.goto 4, 3) := by decide +kernel
theorem dX6_neverFromFour_17 : decode cX6_neverFromFour 17 = .ok (.iconst 0, 1) := by decide +kernel
theorem dX6_neverFromFour_18 : decode cX6_neverFromFour 18 = .ok (.ireturn, 1) := by decide +kernel
theorem dX6_neverFromSix_0 : decode cX6_neverFromSix 0 = .ok (.iload_n 0, 1) := by decide +kernel
theorem dX6_neverFromSix_1 : decode cX6_neverFromSix 1 = .ok (.invokestatic 260, 3) := by decide +kernel
theorem dX6_neverFromSix_4 : decode cX6_neverFromSix 4 = .ok (.ifCond .ne 8, 3) := by decide +kernel
theorem dX6_neverFromSix_7 : decode cX6_neverFromSix 7 = .ok (.iload_n 0, 1) := by decide +kernel
theorem dX6_neverFromSix_8 : decode cX6_neverFromSix 8 = .ok (.iconst 1, 1) := by decide +kernel
theorem dX6_neverFromSix_9 : decode cX6_neverFromSix 9 = .ok (.if_icmp .ne 7, 3) := by decide +kernel
theorem dX6_neverFromSix_12 : decode cX6_neverFromSix 12 = .ok (.iconst 1, 1) := by decide +kernel
theorem dX6_neverFromSix_13 : decode cX6_neverFromSix 13 = .ok (.goto 4, 3) := by decide +kernel
theorem dX6_neverFromSix_16 : decode cX6_neverFromSix 16 = .ok (.iconst 0, 1) := by decide +kernel
theorem dX6_neverFromSix_17 : decode cX6_neverFromSix 17 = .ok (.ireturn, 1) := by decide +kernel
theorem dX6_neverFromEither_0 : decode cX6_neverFromEither 0 = .ok (.iload_n 0, 1) := by decide +kernel
theorem dX6_neverFromEither_1 : decode cX6_neverFromEither 1 = .ok (.ifCond .eq 32, 3) := by decide +kernel
theorem dX6_neverFromEither_4 : decode cX6_neverFromEither 4 = .ok (.iload_n 0, 1) := by decide +kernel
theorem dX6_neverFromEither_5 : decode cX6_neverFromEither 5 = .ok (.iconst 2, 1) := by decide +kernel
theorem dX6_neverFromEither_6 : decode cX6_neverFromEither 6 = .ok (.if_icmp .eq 27, 3) := by decide +kernel
theorem dX6_neverFromEither_9 : decode cX6_neverFromEither 9 = .ok (.iload_n 0, 1) := by decide +kernel
theorem dX6_neverFromEither_10 : decode cX6_neverFromEither 10 = .ok (.bipush 43, 2) := by decide +kernel
theorem dX6_neverFromEither_12 : decode cX6_neverFromEither 12 = .ok (.if_icmp .eq 21, 3) := by decide +kernel
theorem dX6_neverFromEither_15 : decode cX6_neverFromEither 15 = .ok (.iload_n 0, 1) := by decide +kernel
theorem dX6_neverFromEither_16 : decode cX6_neverFromEither 16 = .ok (.bipush 44, 2) := by decide +kernel
theorem dX6_neverFromEither_18 : decode cX6_neverFromEither 18 = .ok (.if_icmp .eq 15, 3) := by decide +kernel
theorem dX6_neverFromEither_21 : decode cX6_neverFromEither 21 = .ok (.iload_n 0, 1) := by decide +kernel
theorem dX6_neverFromEither_22 : decode cX6_neverFromEither 22 = .ok (.bipush 59, 2) := by decide +kernel
theorem dX6_neverFromEither_24 : decode cX6_neverFromEither 24 = .ok (.if_icmp .eq 9, 3) := by decide +kernel
theorem dX6_neverFromEither_27 : decode cX6_neverFromEither 27 = .ok (.iload_n 0, 1) := by decide +kernel
theorem dX6_neverFromEither_28 : decode cX6_neverFromEither 28 = .ok (.bipush 60, 2) := by decide +kernel
theorem dX6_neverFromEither_30 : decode cX6_neverFromEither 30 = .ok (.if_icmp .ne 7, 3) := by decide +kernel
theorem dX6_neverFromEither_33 : decode cX6_neverFromEither 33 = .ok (.iconst 1, 1) := by decide +kernel
theorem dX6_neverFromEither_34 : decode cX6_neverFromEither 34 = .ok (.goto 4, 3) := by decide +kernel
theorem dX6_neverFromEither_37 : decode cX6_neverFromEither 37 = .ok (.iconst 0, 1) := by decide +kernel
theorem dX6_neverFromEither_38 : decode cX6_neverFromEither 38 = .ok (.ireturn, 1) := by decide +kernel
theorem dX6_faultOfTransport_0 : decode cX6_faultOfTransport 0 = .ok (.aload_n 1, 1) := by decide +kernel
theorem dX6_faultOfTransport_1 : decode cX6_faultOfTransport 1 = .ok (.getfield 263, 3) := by decide +kernel
theorem dX6_faultOfTransport_4 : decode cX6_faultOfTransport 4 = .ok (.bipush 17, 2) := by decide +kernel
theorem dX6_faultOfTransport_6 : decode cX6_faultOfTransport 6 = .ok (.if_icmp .ne 7, 3) := by decide +kernel
theorem dX6_faultOfTransport_9 : decode cX6_faultOfTransport 9 = .ok (.iconst 1, 1) := by decide +kernel
theorem dX6_faultOfTransport_10 : decode cX6_faultOfTransport 10 = .ok (.goto 4, 3) := by decide +kernel
theorem dX6_faultOfTransport_13 : decode cX6_faultOfTransport 13 = .ok (.iconst 0, 1) := by decide +kernel
theorem dX6_faultOfTransport_14 : decode cX6_faultOfTransport 14 = .ok (.istore_n 3, 1) := by decide +kernel
theorem dX6_faultOfTransport_15 : decode cX6_faultOfTransport 15 = .ok (.aload_n 1, 1) := by decide +kernel
theorem dX6_faultOfTransport_16 : decode cX6_faultOfTransport 16 = .ok (.getfield 263, 3) := by decide +kernel
theorem dX6_faultOfTransport_19 : decode cX6_faultOfTransport 19 = .ok (.iconst 1, 1) := by decide +kernel
theorem dX6_faultOfTransport_20 : decode cX6_faultOfTransport 20 = .ok (.if_icmp .eq 12, 3) := by decide +kernel
theorem dX6_faultOfTransport_23 : decode cX6_faultOfTransport 23 = .ok (.aload_n 1, 1) := by decide +kernel
theorem dX6_faultOfTransport_24 : decode cX6_faultOfTransport 24 = .ok (.getfield 263, 3) := by decide +kernel
theorem dX6_faultOfTransport_27 : decode cX6_faultOfTransport 27 = .ok (.bipush 58, 2) := by decide +kernel
theorem dX6_faultOfTransport_29 : decode cX6_faultOfTransport 29 = .ok (.if_icmp .ne 7, 3) := by decide +kernel
theorem dX6_faultOfTransport_32 : decode cX6_faultOfTransport 32 = .ok (.iconst 1, 1) := by decide +kernel
theorem dX6_faultOfTransport_33 : decode cX6_faultOfTransport 33 = .ok (.goto 4, 3) := by decide +kernel
theorem dX6_faultOfTransport_36 : decode cX6_faultOfTransport 36 = .ok (.iconst 0, 1) := by decide +kernel
theorem dX6_faultOfTransport_37 : decode cX6_faultOfTransport 37 = .ok (.istore 4, 2) := by decide +kernel
theorem dX6_faultOfTransport_39 : decode cX6_faultOfTransport 39 = .ok (.aload_n 1, 1) := by decide +kernel
theorem dX6_faultOfTransport_40 : decode cX6_faultOfTransport 40 = .ok (.getfield 266, 3) := by decide +kernel
theorem dX6_faultOfTransport_43 : decode cX6_faultOfTransport 43 = .ok (.ifCond .ne 21, 3) := by decide +kernel
theorem dX6_faultOfTransport_46 : decode cX6_faultOfTransport 46 = .ok (.iload_n 3, 1) := by decide +kernel
theorem dX6_faultOfTransport_47 : decode cX6_faultOfTransport 47 = .ok (.ifCond .ne 19, 3) := by decide +kernel
theorem dX6_faultOfTransport_50 : decode cX6_faultOfTransport 50 = .ok (.iload 4, 2) := by decide +kernel
theorem dX6_faultOfTransport_52 : decode cX6_faultOfTransport 52 = .ok (.ifCond .ne 14, 3) := by decide +kernel
theorem dX6_faultOfTransport_55 : decode cX6_faultOfTransport 55 = .ok (.aload_n 1, 1) := by decide +kernel
theorem dX6_faultOfTransport_56 : decode cX6_faultOfTransport 56 = .ok (.getfield 263, 3) := by decide +kernel
theorem dX6_faultOfTransport_59 : decode cX6_faultOfTransport 59 = .ok (.bipush 6, 2) := by decide +kernel
theorem dX6_faultOfTransport_61 : decode cX6_faultOfTransport 61 = .ok (.if_icmp .eq 5, 3) := by decide +kernel
theorem dX6_faultOfTransport_64 : decode cX6_faultOfTransport 64 = .ok (.iconst 0, 1) := by decide +kernel
theorem dX6_faultOfTransport_65 : decode cX6_faultOfTransport 65 = .ok (.ireturn, 1) := by decide +kernel
theorem dX6_faultOfTransport_66 : decode cX6_faultOfTransport 66 = .ok (.aload_n 1, 1) := by decide +kernel
theorem dX6_faultOfTransport_67 : decode cX6_faultOfTransport 67 = .ok (.getfield 269, 3) := by decide +kernel
theorem dX6_faultOfTransport_70 : decode cX6_faultOfTransport 70 = .ok (.aload_n 1, 1) := by decide +kernel
theorem dX6_faultOfTransport_71 : decode cX6_faultOfTransport 71 = .ok (.getfield 263, 3) := by decide +kernel
theorem dX6_faultOfTransport_74 : decode cX6_faultOfTransport 74 = .ok (.bipush 6, 2) := by decide +kernel
theorem dX6_faultOfTransport_76 : decode cX6_faultOfTransport 76 = .ok (.if_icmp .ne 8, 3) := by decide +kernel
theorem dX6_faultOfTransport_79 : decode cX6_faultOfTransport 79 = .ok (.bipush 20, 2) := by decide +kernel
theorem dX6_faultOfTransport_81 : decode cX6_faultOfTransport 81 = .ok (.goto 5, 3) := by decide +kernel
theorem dX6_faultOfTransport_84 : decode cX6_faultOfTransport 84 = .ok (.bipush 8, 2) := by decide +kernel
theorem dX6_faultOfTransport_86 : decode cX6_faultOfTransport 86 = .ok (.if_icmp .ge 5, 3) := by decide +kernel
theorem dX6_faultOfTransport_89 : decode cX6_faultOfTransport 89 = .ok (.iconst 4, 1) := by decide +kernel
theorem dX6_faultOfTransport_90 : decode cX6_faultOfTransport 90 = .ok (.ireturn, 1) := by decide +kernel
theorem dX6_faultOfTransport_91 : decode cX6_faultOfTransport 91 = .ok (.iload_n 3, 1) := by decide +kernel
theorem dX6_faultOfTransport_92 : decode cX6_faultOfTransport 92 = .ok (.ifCond .eq 32, 3) := by decide +kernel
theorem dX6_faultOfTransport_95 : decode cX6_faultOfTransport 95 = .ok (.aload_n 1, 1) := by decide +kernel
theorem dX6_faultOfTransport_96 : decode cX6_faultOfTransport 96 = .ok (.getfield 270, 3) := by decide +kernel
theorem dX6_faultOfTransport_99 : decode cX6_faultOfTransport 99 = .ok (.ifCond .ne 25, 3) := by decide +kernel
theorem dX6_faultOfTransport_102 : decode cX6_faultOfTransport 102 = .ok (.aload_n 0, 1) := by decide +kernel
theorem dX6_faultOfTransport_103 : decode cX6_faultOfTransport 103 = .ok (.getfield 14, 3) := by decide +kernel
theorem dX6_faultOfTransport_106 : decode cX6_faultOfTransport 106 = .ok (.aload_n 1, 1) := by decide +kernel
theorem dX6_faultOfTransport_107 : decode cX6_faultOfTransport 107 = .ok (.getfield 271, 3) := by decide +kernel
theorem dX6_faultOfTransport_110 : decode cX6_faultOfTransport 110 = .ok (.iconst 4, 1) := by decide +kernel
theorem dX6_faultOfTransport_111 : decode cX6_faultOfTransport 111 = .ok (.iadd, 1) := by decide +kernel
theorem dX6_faultOfTransport_112 : decode cX6_faultOfTransport 112 = .ok (.invokevirtual 272, 3) := by decide +kernel
theorem dX6_faultOfTransport_115 : decode cX6_faultOfTransport 115 = .ok (.aload_n 1, 1) := by decide +kernel
theorem dX6_faultOfTransport_116 : decode cX6_faultOfTransport 116 = .ok (.getfield 269, 3) := by decide +kernel
theorem dX6_faultOfTransport_119 : decode cX6_faultOfTransport 119 = .ok (.if_icmp .eq 5, 3) := by decide +kernel
theorem dX6_faultOfTransport_122 : decode cX6_faultOfTransport 122 = .ok (.iconst 4, 1) := by decide +kernel
theorem dX6_faultOfTransport_123 : decode cX6_faultOfTransport 123 = .ok (.ireturn, 1) := by decide +kernel
theorem dX6_faultOfTransport_124 : decode cX6_faultOfTransport 124 = .ok (.iload_n 3, 1) := by decide +kernel
theorem dX6_faultOfTransport_125 : decode cX6_faultOfTransport 125 = .ok (.ifCond .eq 29, 3) := by decide +kernel
theorem dX6_faultOfTransport_128 : decode cX6_faultOfTransport 128 = .ok (.iload_n 2, 1) := by decide +kernel
theorem dX6_faultOfTransport_129 : decode cX6_faultOfTransport 129 = .ok (.ifCond .ne 25, 3) := by decide +kernel
theorem dX6_faultOfTransport_132 : decode cX6_faultOfTransport 132 = .ok (.aload_n 0, 1) := by decide +kernel
theorem dX6_faultOfTransport_133 : decode cX6_faultOfTransport 133 = .ok (.getfield 14, 3) := by decide +kernel
theorem dX6_faultOfTransport_136 : decode cX6_faultOfTransport 136 = .ok (.aload_n 1, 1) := by decide +kernel
theorem dX6_faultOfTransport_137 : decode cX6_faultOfTransport 137 = .ok (.getfield 271, 3) := by decide +kernel
theorem dX6_faultOfTransport_140 : decode cX6_faultOfTransport 140 = .ok (.bipush 6, 2) := by decide +kernel
theorem dX6_faultOfTransport_142 : decode cX6_faultOfTransport 142 = .ok (.iadd, 1) := by decide +kernel
theorem dX6_faultOfTransport_143 : decode cX6_faultOfTransport 143 = .ok (.invokevirtual 272, 3) := by decide +kernel
theorem dX6_faultOfTransport_146 : decode cX6_faultOfTransport 146 = .ok (.ifCond .ne 8, 3) := by decide +kernel
theorem dX6_faultOfTransport_149 : decode cX6_faultOfTransport 149 = .ok (.bipush 7, 2) := by decide +kernel
theorem dX6_faultOfTransport_151 : decode cX6_faultOfTransport 151 = .ok (.goto 4, 3) := by decide +kernel
theorem dX6_faultOfTransport_154 : decode cX6_faultOfTransport 154 = .ok (.iconst 0, 1) := by decide +kernel
theorem dX6_faultOfTransport_155 : decode cX6_faultOfTransport 155 = .ok (.ireturn, 1) := by decide +kernel
theorem dX6_isEchoFour_0 : decode cX6_isEchoFour 0 = .ok (.iload_n 0, 1) := by decide +kernel
theorem dX6_isEchoFour_1 : decode cX6_isEchoFour 1 = .ok (.bipush 8, 2) := by decide +kernel
theorem dX6_isEchoFour_3 : decode cX6_isEchoFour 3 = .ok (.if_icmp .eq 7, 3) := by decide +kernel
theorem dX6_isEchoFour_6 : decode cX6_isEchoFour 6 = .ok (.iload_n 0, 1) := by decide +kernel
theorem dX6_isEchoFour_7 : decode cX6_isEchoFour 7 = .ok (.ifCond .ne 7, 3) := by decide +kernel
theorem dX6_isEchoFour_10 : decode cX6_isEchoFour 10 = .ok (.iconst 1, 1) := by decide +kernel
theorem dX6_isEchoFour_11 : decode cX6_isEchoFour 11 = .ok (.goto 4, 3) := by decide +kernel
theorem dX6_isEchoFour_14 : decode cX6_isEchoFour 14 = .ok (.iconst 0, 1) := by decide +kernel
theorem dX6_isEchoFour_15 : decode cX6_isEchoFour 15 = .ok (.ireturn, 1) := by decide +kernel
theorem dX6_isErrorFour_0 : decode cX6_isErrorFour 0 = .ok (.iload_n 0, 1) := by decide +kernel
theorem dX6_isErrorFour_1 : decode cX6_isErrorFour 1 = .ok (.iconst 3, 1) := by decide +kernel
theorem dX6_isErrorFour_2 : decode cX6_isErrorFour 2 = .ok (.if_icmp .eq 15, 3) := by decide +kernel
theorem dX6_isErrorFour_5 : decode cX6_isErrorFour 5 = .ok (.iload_n 0, 1) := by decide +kernel
theorem dX6_isErrorFour_6 : decode cX6_isErrorFour 6 = .ok (.bipush 11, 2) := by decide +kernel
theorem dX6_isErrorFour_8 : decode cX6_isErrorFour 8 = .ok (.if_icmp .eq 9, 3) := by decide +kernel
theorem dX6_isErrorFour_11 : decode cX6_isErrorFour 11 = .ok (.iload_n 0, 1) := by decide +kernel
theorem dX6_isErrorFour_12 : decode cX6_isErrorFour 12 = .ok (.bipush 12, 2) := by decide +kernel
theorem dX6_isErrorFour_14 : decode cX6_isErrorFour 14 = .ok (.if_icmp .ne 7, 3) := by decide +kernel
theorem dX6_isErrorFour_17 : decode cX6_isErrorFour 17 = .ok (.iconst 1, 1) := by decide +kernel
theorem dX6_isErrorFour_18 : decode cX6_isErrorFour 18 = .ok (.goto 4, 3) := by decide +kernel
theorem dX6_isErrorFour_21 : decode cX6_isErrorFour 21 = .ok (.iconst 0, 1) := by decide +kernel
theorem dX6_isErrorFour_22 : decode cX6_isErrorFour 22 = .ok (.ireturn, 1) := by decide +kernel
theorem dX6_bodyFromFour_0 : decode cX6_bodyFromFour 0 = .ok (.aload_n 0, 1) := by decide +kernel
theorem dX6_bodyFromFour_1 : decode cX6_bodyFromFour 1 = .ok (.getfield 18, 3) := by decide +kernel
theorem dX6_bodyFromFour_4 : decode cX6_bodyFromFour 4 = .ok (.aload_n 0, 1) := by decide +kernel
theorem dX6_bodyFromFour_5 : decode cX6_bodyFromFour 5 = .ok (.getfield 14, 3) := by decide +kernel
theorem dX6_bodyFromFour_8 : decode cX6_bodyFromFour 8 = .ok (.aload_n 1, 1) := by decide +kernel
theorem dX6_bodyFromFour_9 : decode cX6_bodyFromFour 9 = .ok (.getfield 219, 3) := by decide +kernel
theorem dX6_bodyFromFour_12 : decode cX6_bodyFromFour 12 = .ok (.iconst 0, 1) := by decide +kernel
theorem dX6_bodyFromFour_13 : decode cX6_bodyFromFour 13 = .ok (.aload_n 1, 1) := by decide +kernel
theorem dX6_bodyFromFour_14 : decode cX6_bodyFromFour 14 = .ok (.getfield 275, 3) := by decide +kernel
theorem dX6_bodyFromFour_17 : decode cX6_bodyFromFour 17 = .ok (.invokevirtual 276, 3) := by decide +kernel
theorem dX6_bodyFromFour_20 : decode cX6_bodyFromFour 20 = .ok (.aload_n 0, 1) := by decide +kernel
theorem dX6_bodyFromFour_21 : decode cX6_bodyFromFour 21 = .ok (.getfield 18, 3) := by decide +kernel
theorem dX6_bodyFromFour_24 : decode cX6_bodyFromFour 24 = .ok (.aload_n 1, 1) := by decide +kernel
theorem dX6_bodyFromFour_25 : decode cX6_bodyFromFour 25 = .ok (.getfield 275, 3) := by decide +kernel
theorem dX6_bodyFromFour_28 : decode cX6_bodyFromFour 28 = .ok (.putfield 89, 3) := by decide +kernel
theorem dX6_bodyFromFour_31 : decode cX6_bodyFromFour 31 = .ok (.aload_n 0, 1) := by decide +kernel
theorem dX6_bodyFromFour_32 : decode cX6_bodyFromFour 32 = .ok (.aload_n 1, 1) := by decide +kernel
theorem dX6_bodyFromFour_33 : decode cX6_bodyFromFour 33 = .ok (.iconst 0, 1) := by decide +kernel
theorem dX6_bodyFromFour_34 : decode cX6_bodyFromFour 34 = .ok (.invokevirtual 280, 3) := by decide +kernel
theorem dX6_bodyFromFour_37 : decode cX6_bodyFromFour 37 = .ok (.aload_n 1, 1) := by decide +kernel
theorem dX6_bodyFromFour_38 : decode cX6_bodyFromFour 38 = .ok (.getfield 216, 3) := by decide +kernel
theorem dX6_bodyFromFour_41 : decode cX6_bodyFromFour 41 = .ok (.bipush 17, 2) := by decide +kernel
theorem dX6_bodyFromFour_43 : decode cX6_bodyFromFour 43 = .ok (.if_icmp .ne 78, 3) := by decide +kernel
theorem dX6_bodyFromFour_46 : decode cX6_bodyFromFour 46 = .ok (.aload_n 1, 1) := by decide +kernel
theorem dX6_bodyFromFour_47 : decode cX6_bodyFromFour 47 = .ok (.getfield 284, 3) := by decide +kernel
theorem dX6_bodyFromFour_50 : decode cX6_bodyFromFour 50 = .ok (.ifCond .ne 71, 3) := by decide +kernel
theorem dX6_bodyFromFour_53 : decode cX6_bodyFromFour 53 = .ok (.aload_n 0, 1) := by decide +kernel
theorem dX6_bodyFromFour_54 : decode cX6_bodyFromFour 54 = .ok (.getfield 18, 3) := by decide +kernel
theorem dX6_bodyFromFour_57 : decode cX6_bodyFromFour 57 = .ok (.bipush 6, 2) := by decide +kernel
theorem dX6_bodyFromFour_59 : decode cX6_bodyFromFour 59 = .ok (.invokevirtual 272, 3) := by decide +kernel
theorem dX6_bodyFromFour_62 : decode cX6_bodyFromFour 62 = .ok (.ifCond .ne 59, 3) := by decide +kernel
theorem dX6_bodyFromFour_65 : decode cX6_bodyFromFour 65 = .ok (.aload_n 1, 1) := by decide +kernel
theorem dX6_bodyFromFour_66 : decode cX6_bodyFromFour 66 = .ok (.getfield 213, 3) := by decide +kernel
theorem dX6_bodyFromFour_69 : decode cX6_bodyFromFour 69 = .ok (.aload_n 1, 1) := by decide +kernel
theorem dX6_bodyFromFour_70 : decode cX6_bodyFromFour 70 = .ok (.getfield 275, 3) := by decide +kernel
theorem dX6_bodyFromFour_73 : decode cX6_bodyFromFour 73 = .ok (.i2l, 1) := by decide +kernel
theorem dX6_bodyFromFour_74 : decode cX6_bodyFromFour 74 = .ok (.ladd, 1) := by decide +kernel
theorem dX6_bodyFromFour_75 : decode cX6_bodyFromFour 75 = .ok (.ldc2_w 285, 3) := by decide +kernel
theorem dX6_bodyFromFour_78 : decode cX6_bodyFromFour 78 = .ok (.ladd, 1) := by decide +kernel
theorem dX6_bodyFromFour_79 : decode cX6_bodyFromFour 79 = .ok (.aload_n 0, 1) := by decide +kernel
theorem dX6_bodyFromFour_80 : decode cX6_bodyFromFour 80 = .ok (.getfield 18, 3) := by decide +kernel
theorem dX6_bodyFromFour_83 : decode cX6_bodyFromFour 83 = .ok (.iconst 0, 1) := by decide +kernel
theorem dX6_bodyFromFour_84 : decode cX6_bodyFromFour 84 = .ok (.aload_n 0, 1) := by decide +kernel
theorem dX6_bodyFromFour_85 : decode cX6_bodyFromFour 85 = .ok (.getfield 18, 3) := by decide +kernel
theorem dX6_bodyFromFour_88 : decode cX6_bodyFromFour 88 = .ok (.getfield 89, 3) := by decide +kernel
theorem dX6_bodyFromFour_91 : decode cX6_bodyFromFour 91 = .ok (.invokevirtual 163, 3) := by decide +kernel
theorem dX6_bodyFromFour_94 : decode cX6_bodyFromFour 94 = .ok (.ladd, 1) := by decide +kernel
theorem dX6_bodyFromFour_95 : decode cX6_bodyFromFour 95 = .ok (.invokestatic 167, 3) := by decide +kernel
theorem dX6_bodyFromFour_98 : decode cX6_bodyFromFour 98 = .ok (.istore_n 2, 1) := by decide +kernel
theorem dX6_bodyFromFour_99 : decode cX6_bodyFromFour 99 = .ok (.aload_n 0, 1) := by decide +kernel
theorem dX6_bodyFromFour_100 : decode cX6_bodyFromFour 100 = .ok (.getfield 18, 3) := by decide +kernel
theorem dX6_bodyFromFour_103 : decode cX6_bodyFromFour 103 = .ok (.bipush 6, 2) := by decide +kernel
theorem dX6_bodyFromFour_105 : decode cX6_bodyFromFour 105 = .ok (.iconst 2, 1) := by decide +kernel
theorem dX6_bodyFromFour_106 : decode cX6_bodyFromFour 106 = .ok (.iload_n 2, 1) := by decide +kernel
theorem dX6_bodyFromFour_107 : decode cX6_bodyFromFour 107 = .ok (.ifCond .ne 9, 3) := by decide +kernel
theorem dX6_bodyFromFour_110 : decode cX6_bodyFromFour 110 = .ok (.ldc2_w 287, 3) := by decide +kernel
theorem dX6_bodyFromFour_113 : decode cX6_bodyFromFour 113 = .ok (.goto 5, 3) := by decide +kernel
theorem dX6_bodyFromFour_116 : decode cX6_bodyFromFour 116 = .ok (.iload_n 2, 1) := by decide +kernel
theorem dX6_bodyFromFour_117 : decode cX6_bodyFromFour 117 = .ok (.i2l, 1) := by decide +kernel
theorem dX6_bodyFromFour_118 : decode cX6_bodyFromFour 118 = .ok (.invokevirtual 99, 3) := by decide +kernel
theorem dX6_bodyFromFour_121 : decode cX6_bodyFromFour 121 = .ok (.return_, 1) := by decide +kernel
theorem dX6_fixToSix_0 : decode cX6_fixToSix 0 = .ok (.aload_n 1, 1) := by decide +kernel
theorem dX6_fixToSix_1 : decode cX6_fixToSix 1 = .ok (.getfield 216, 3) := by decide +kernel
theorem dX6_fixToSix_4 : decode cX6_fixToSix 4 = .ok (.iconst 1, 1) := by decide +kernel
theorem dX6_fixToSix_5 : decode cX6_fixToSix 5 = .ok (.if_icmp .ne 110, 3) := by decide +kernel
theorem dX6_fixToSix_8 : decode cX6_fixToSix 8 = .ok (.aload_n 0, 1) := by decide +kernel
theorem dX6_fixToSix_9 : decode cX6_fixToSix 9 = .ok (.getfield 18, 3) := by decide +kernel
theorem dX6_fixToSix_12 : decode cX6_fixToSix 12 = .ok (.iload_n 2, 1) := by decide +kernel
theorem dX6_fixToSix_13 : decode cX6_fixToSix 13 = .ok (.invokevirtual 272, 3) := by decide +kernel
theorem dX6_fixToSix_16 : decode cX6_fixToSix 16 = .ok (.istore_n 3, 1) := by decide +kernel
theorem dX6_fixToSix_17 : decode cX6_fixToSix 17 = .ok (.iload_n 3, 1) := by decide +kernel
theorem dX6_fixToSix_18 : decode cX6_fixToSix 18 = .ok (.bipush 8, 2) := by decide +kernel
theorem dX6_fixToSix_20 : decode cX6_fixToSix 20 = .ok (.ishr, 1) := by decide +kernel
theorem dX6_fixToSix_21 : decode cX6_fixToSix 21 = .ok (.bipush 8, 2) := by decide +kernel
theorem dX6_fixToSix_23 : decode cX6_fixToSix 23 = .ok (.if_icmp .ne 9, 3) := by decide +kernel
theorem dX6_fixToSix_26 : decode cX6_fixToSix 26 = .ok (.sipush 128, 3) := by decide +kernel
theorem dX6_fixToSix_29 : decode cX6_fixToSix 29 = .ok (.goto 6, 3) := by decide +kernel
theorem dX6_fixToSix_32 : decode cX6_fixToSix 32 = .ok (.sipush 129, 3) := by decide +kernel
theorem dX6_fixToSix_35 : decode cX6_fixToSix 35 = .ok (.istore 4, 2) := by decide +kernel
theorem dX6_fixToSix_37 : decode cX6_fixToSix 37 = .ok (.iload 4, 2) := by decide +kernel
theorem dX6_fixToSix_39 : decode cX6_fixToSix 39 = .ok (.bipush 8, 2) := by decide +kernel
theorem dX6_fixToSix_41 : decode cX6_fixToSix 41 = .ok (.ishl, 1) := by decide +kernel
theorem dX6_fixToSix_42 : decode cX6_fixToSix 42 = .ok (.iload_n 3, 1) := by decide +kernel
theorem dX6_fixToSix_43 : decode cX6_fixToSix 43 = .ok (.sipush 255, 3) := by decide +kernel
theorem dX6_fixToSix_46 : decode cX6_fixToSix 46 = .ok (.iand, 1) := by decide +kernel
theorem dX6_fixToSix_47 : decode cX6_fixToSix 47 = .ok (.ior, 1) := by decide +kernel
theorem dX6_fixToSix_48 : decode cX6_fixToSix 48 = .ok (.istore 5, 2) := by decide +kernel
theorem dX6_fixToSix_50 : decode cX6_fixToSix 50 = .ok (.aload_n 0, 1) := by decide +kernel
theorem dX6_fixToSix_51 : decode cX6_fixToSix 51 = .ok (.getfield 18, 3) := by decide +kernel
theorem dX6_fixToSix_54 : decode cX6_fixToSix 54 = .ok (.iload_n 2, 1) := by decide +kernel
theorem dX6_fixToSix_55 : decode cX6_fixToSix 55 = .ok (.iconst 2, 1) := by decide +kernel
theorem dX6_fixToSix_56 : decode cX6_fixToSix 56 = .ok (.iload 5, 2) := by decide +kernel
theorem dX6_fixToSix_58 : decode cX6_fixToSix 58 = .ok (.i2l, 1) := by decide +kernel
theorem dX6_fixToSix_59 : decode cX6_fixToSix 59 = .ok (.invokevirtual 99, 3) := by decide +kernel
theorem dX6_fixToSix_62 : decode cX6_fixToSix 62 = .ok (.iload 5, 2) := by decide +kernel
theorem dX6_fixToSix_64 : decode cX6_fixToSix 64 = .ok (.i2l, 1) := by decide +kernel
theorem dX6_fixToSix_65 : decode cX6_fixToSix 65 = .ok (.aload_n 1, 1) := by decide +kernel
theorem dX6_fixToSix_66 : decode cX6_fixToSix 66 = .ok (.getfield 213, 3) := by decide +kernel
theorem dX6_fixToSix_69 : decode cX6_fixToSix 69 = .ok (.ladd, 1) := by decide +kernel
theorem dX6_fixToSix_70 : decode cX6_fixToSix 70 = .ok (.aload_n 1, 1) := by decide +kernel
theorem dX6_fixToSix_71 : decode cX6_fixToSix 71 = .ok (.getfield 275, 3) := by decide +kernel
theorem dX6_fixToSix_74 : decode cX6_fixToSix 74 = .ok (.i2l, 1) := by decide +kernel
theorem dX6_fixToSix_75 : decode cX6_fixToSix 75 = .ok (.ladd, 1) := by decide +kernel
theorem dX6_fixToSix_76 : decode cX6_fixToSix 76 = .ok (.ldc2_w 289, 3) := by decide +kernel
theorem dX6_fixToSix_79 : decode cX6_fixToSix 79 = .ok (.ladd, 1) := by decide +kernel
theorem dX6_fixToSix_80 : decode cX6_fixToSix 80 = .ok (.lstore 6, 2) := by decide +kernel
theorem dX6_fixToSix_82 : decode cX6_fixToSix 82 = .ok (.aload_n 0, 1) := by decide +kernel
theorem dX6_fixToSix_83 : decode cX6_fixToSix 83 = .ok (.getfield 18, 3) := by decide +kernel
theorem dX6_fixToSix_86 : decode cX6_fixToSix 86 = .ok (.iload_n 2, 1) := by decide +kernel
theorem dX6_fixToSix_87 : decode cX6_fixToSix 87 = .ok (.iconst 2, 1) := by decide +kernel
theorem dX6_fixToSix_88 : decode cX6_fixToSix 88 = .ok (.iadd, 1) := by decide +kernel
theorem dX6_fixToSix_89 : decode cX6_fixToSix 89 = .ok (.iconst 2, 1) := by decide +kernel
theorem dX6_fixToSix_90 : decode cX6_fixToSix 90 = .ok (.aload_n 0, 1) := by decide +kernel
theorem dX6_fixToSix_91 : decode cX6_fixToSix 91 = .ok (.getfield 18, 3) := by decide +kernel
theorem dX6_fixToSix_94 : decode cX6_fixToSix 94 = .ok (.iload_n 2, 1) := by decide +kernel
theorem dX6_fixToSix_95 : decode cX6_fixToSix 95 = .ok (.iconst 2, 1) := by decide +kernel
theorem dX6_fixToSix_96 : decode cX6_fixToSix 96 = .ok (.iadd, 1) := by decide +kernel
theorem dX6_fixToSix_97 : decode cX6_fixToSix 97 = .ok (.invokevirtual 272, 3) := by decide +kernel
theorem dX6_fixToSix_100 : decode cX6_fixToSix 100 = .ok (.iload_n 3, 1) := by decide +kernel
theorem dX6_fixToSix_101 : decode cX6_fixToSix 101 = .ok (.i2l, 1) := by decide +kernel
theorem dX6_fixToSix_102 : decode cX6_fixToSix 102 = .ok (.iconst 1, 1) := by decide +kernel
theorem dX6_fixToSix_103 : decode cX6_fixToSix 103 = .ok (.lload 6, 2) := by decide +kernel
theorem dX6_fixToSix_105 : decode cX6_fixToSix 105 = .ok (.invokestatic 291, 3) := by decide +kernel
theorem dX6_fixToSix_108 : decode cX6_fixToSix 108 = .ok (.i2l, 1) := by decide +kernel
theorem dX6_fixToSix_109 : decode cX6_fixToSix 109 = .ok (.invokevirtual 99, 3) := by decide +kernel
theorem dX6_fixToSix_112 : decode cX6_fixToSix 112 = .ok (.goto 18, 3) := by decide +kernel
theorem dX6_fixToSix_115 : decode cX6_fixToSix 115 = .ok (.aload_n 0, 1) := by decide +kernel
theorem dX6_fixToSix_116 : decode cX6_fixToSix 116 = .ok (.aload_n 1, 1) := by decide +kernel
theorem dX6_fixToSix_117 : decode cX6_fixToSix 117 = .ok (.iload_n 2, 1) := by decide +kernel
theorem dX6_fixToSix_118 : decode cX6_fixToSix 118 = .ok (.aload_n 1, 1) := by decide +kernel
theorem dX6_fixToSix_119 : decode cX6_fixToSix 119 = .ok (.getfield 295, 3) := by decide +kernel
theorem dX6_fixToSix_122 : decode cX6_fixToSix 122 = .ok (.iconst 4, 1) := by decide +kernel
theorem dX6_fixToSix_123 : decode cX6_fixToSix 123 = .ok (.aload_n 1, 1) := by decide +kernel
theorem dX6_fixToSix_124 : decode cX6_fixToSix 124 = .ok (.getfield 213, 3) := by decide +kernel
theorem dX6_fixToSix_127 : decode cX6_fixToSix 127 = .ok (.invokevirtual 298, 3) := by decide +kernel
theorem dX6_fixToSix_130 : decode cX6_fixToSix 130 = .ok (.return_, 1) := by decide +kernel
theorem dX6_fixTransport_0 : decode cX6_fixTransport 0 = .ok (.aload_n 1, 1) := by decide +kernel
theorem dX6_fixTransport_1 : decode cX6_fixTransport 1 = .ok (.getfield 263, 3) := by decide +kernel
theorem dX6_fixTransport_4 : decode cX6_fixTransport 4 = .ok (.bipush 17, 2) := by decide +kernel
theorem dX6_fixTransport_6 : decode cX6_fixTransport 6 = .ok (.if_icmp .ne 8, 3) := by decide +kernel
theorem dX6_fixTransport_9 : decode cX6_fixTransport 9 = .ok (.bipush 6, 2) := by decide +kernel
theorem dX6_fixTransport_11 : decode cX6_fixTransport 11 = .ok (.goto 5, 3) := by decide +kernel
theorem dX6_fixTransport_14 : decode cX6_fixTransport 14 = .ok (.bipush 16, 2) := by decide +kernel
theorem dX6_fixTransport_16 : decode cX6_fixTransport 16 = .ok (.istore 8, 2) := by decide +kernel
theorem dX6_fixTransport_18 : decode cX6_fixTransport 18 = .ok (.aload_n 1, 1) := by decide +kernel
theorem dX6_fixTransport_19 : decode cX6_fixTransport 19 = .ok (.getfield 263, 3) := by decide +kernel
theorem dX6_fixTransport_22 : decode cX6_fixTransport 22 = .ok (.bipush 17, 2) := by decide +kernel
theorem dX6_fixTransport_24 : decode cX6_fixTransport 24 = .ok (.if_icmp .eq 12, 3) := by decide +kernel
theorem dX6_fixTransport_27 : decode cX6_fixTransport 27 = .ok (.aload_n 1, 1) := by decide +kernel
theorem dX6_fixTransport_28 : decode cX6_fixTransport 28 = .ok (.getfield 263, 3) := by decide +kernel
theorem dX6_fixTransport_31 : decode cX6_fixTransport 31 = .ok (.bipush 6, 2) := by decide +kernel
theorem dX6_fixTransport_33 : decode cX6_fixTransport 33 = .ok (.if_icmp .ne 7, 3) := by decide +kernel
theorem dX6_fixTransport_36 : decode cX6_fixTransport 36 = .ok (.iconst 1, 1) := by decide +kernel
theorem dX6_fixTransport_37 : decode cX6_fixTransport 37 = .ok (.goto 4, 3) := by decide +kernel
theorem dX6_fixTransport_40 : decode cX6_fixTransport 40 = .ok (.iconst 0, 1) := by decide +kernel
theorem dX6_fixTransport_41 : decode cX6_fixTransport 41 = .ok (.istore 9, 2) := by decide +kernel
theorem dX6_fixTransport_43 : decode cX6_fixTransport 43 = .ok (.iload 9, 2) := by decide +kernel
theorem dX6_fixTransport_45 : decode cX6_fixTransport 45 = .ok (.ifCond .eq 21, 3) := by decide +kernel
theorem dX6_fixTransport_48 : decode cX6_fixTransport 48 = .ok (.aload_n 1, 1) := by decide +kernel
theorem dX6_fixTransport_49 : decode cX6_fixTransport 49 = .ok (.getfield 266, 3) := by decide +kernel
theorem dX6_fixTransport_52 : decode cX6_fixTransport 52 = .ok (.ifCond .ne 14, 3) := by decide +kernel
theorem dX6_fixTransport_55 : decode cX6_fixTransport 55 = .ok (.aload_n 1, 1) := by decide +kernel
theorem dX6_fixTransport_56 : decode cX6_fixTransport 56 = .ok (.getfield 302, 3) := by decide +kernel
theorem dX6_fixTransport_59 : decode cX6_fixTransport 59 = .ok (.iload 8, 2) := by decide +kernel
theorem dX6_fixTransport_61 : decode cX6_fixTransport 61 = .ok (.iconst 2, 1) := by decide +kernel
theorem dX6_fixTransport_62 : decode cX6_fixTransport 62 = .ok (.iadd, 1) := by decide +kernel
theorem dX6_fixTransport_63 : decode cX6_fixTransport 63 = .ok (.if_icmp .ge 4, 3) := by decide +kernel
theorem dX6_fixTransport_66 : decode cX6_fixTransport 66 = .ok (.return_, 1) := by decide +kernel
theorem dX6_fixTransport_67 : decode cX6_fixTransport 67 = .ok (.aload_n 0, 1) := by decide +kernel
theorem dX6_fixTransport_68 : decode cX6_fixTransport 68 = .ok (.getfield 18, 3) := by decide +kernel
theorem dX6_fixTransport_71 : decode cX6_fixTransport 71 = .ok (.iload_n 2, 1) := by decide +kernel
theorem dX6_fixTransport_72 : decode cX6_fixTransport 72 = .ok (.iload 8, 2) := by decide +kernel
theorem dX6_fixTransport_74 : decode cX6_fixTransport 74 = .ok (.iadd, 1) := by decide +kernel
theorem dX6_fixTransport_75 : decode cX6_fixTransport 75 = .ok (.invokevirtual 272, 3) := by decide +kernel
theorem dX6_fixTransport_78 : decode cX6_fixTransport 78 = .ok (.istore 10, 2) := by decide +kernel
theorem dX6_fixTransport_80 : decode cX6_fixTransport 80 = .ok (.aload_n 1, 1) := by decide +kernel
theorem dX6_fixTransport_81 : decode cX6_fixTransport 81 = .ok (.getfield 263, 3) := by decide +kernel
theorem dX6_fixTransport_84 : decode cX6_fixTransport 84 = .ok (.bipush 6, 2) := by decide +kernel
theorem dX6_fixTransport_86 : decode cX6_fixTransport 86 = .ok (.if_icmp .ne 29, 3) := by decide +kernel
theorem dX6_fixTransport_89 : decode cX6_fixTransport 89 = .ok (.aload_n 0, 1) := by decide +kernel
theorem dX6_fixTransport_90 : decode cX6_fixTransport 90 = .ok (.getfield 18, 3) := by decide +kernel
theorem dX6_fixTransport_93 : decode cX6_fixTransport 93 = .ok (.iload_n 2, 1) := by decide +kernel
theorem dX6_fixTransport_94 : decode cX6_fixTransport 94 = .ok (.iload 8, 2) := by decide +kernel
theorem dX6_fixTransport_96 : decode cX6_fixTransport 96 = .ok (.iadd, 1) := by decide +kernel
theorem dX6_fixTransport_97 : decode cX6_fixTransport 97 = .ok (.iconst 2, 1) := by decide +kernel
theorem dX6_fixTransport_98 : decode cX6_fixTransport 98 = .ok (.iload 10, 2) := by decide +kernel
theorem dX6_fixTransport_100 : decode cX6_fixTransport 100 = .ok (.lload_n 3, 1) := by decide +kernel
theorem dX6_fixTransport_101 : decode cX6_fixTransport 101 = .ok (.iload 5, 2) := by decide +kernel
theorem dX6_fixTransport_103 : decode cX6_fixTransport 103 = .ok (.lload 6, 2) := by decide +kernel
theorem dX6_fixTransport_105 : decode cX6_fixTransport 105 = .ok (.invokestatic 291, 3) := by decide +kernel
theorem dX6_fixTransport_108 : decode cX6_fixTransport 108 = .ok (.i2l, 1) := by decide +kernel
theorem dX6_fixTransport_109 : decode cX6_fixTransport 109 = .ok (.invokevirtual 99, 3) := by decide +kernel
theorem dX6_fixTransport_112 : decode cX6_fixTransport 112 = .ok (.goto 46, 3) := by decide +kernel
theorem dX6_fixTransport_115 : decode cX6_fixTransport 115 = .ok (.iload 10, 2) := by decide +kernel
theorem dX6_fixTransport_117 : decode cX6_fixTransport 117 = .ok (.ifCond .eq 41, 3) := by decide +kernel
theorem dX6_fixTransport_120 : decode cX6_fixTransport 120 = .ok (.iload 10, 2) := by decide +kernel
theorem dX6_fixTransport_122 : decode cX6_fixTransport 122 = .ok (.lload_n 3, 1) := by decide +kernel
theorem dX6_fixTransport_123 : decode cX6_fixTransport 123 = .ok (.iload 5, 2) := by decide +kernel
theorem dX6_fixTransport_125 : decode cX6_fixTransport 125 = .ok (.lload 6, 2) := by decide +kernel
theorem dX6_fixTransport_127 : decode cX6_fixTransport 127 = .ok (.invokestatic 291, 3) := by decide +kernel
theorem dX6_fixTransport_130 : decode cX6_fixTransport 130 = .ok (.istore 11, 2) := by decide +kernel
theorem dX6_fixTransport_132 : decode cX6_fixTransport 132 = .ok (.aload_n 0, 1) := by decide +kernel
theorem dX6_fixTransport_133 : decode cX6_fixTransport 133 = .ok (.getfield 18, 3) := by decide +kernel
theorem dX6_fixTransport_136 : decode cX6_fixTransport 136 = .ok (.iload_n 2, 1) := by decide +kernel
theorem dX6_fixTransport_137 : decode cX6_fixTransport 137 = .ok (.iload 8, 2) := by decide +kernel
theorem dX6_fixTransport_139 : decode cX6_fixTransport 139 = .ok (.iadd, 1) := by decide +kernel
theorem dX6_fixTransport_140 : decode cX6_fixTransport 140 = .ok (.iconst 2, 1) := by decide +kernel
theorem dX6_fixTransport_141 : decode cX6_fixTransport 141 = .ok (.iload 11, 2) := by decide +kernel
theorem dX6_fixTransport_143 : decode cX6_fixTransport 143 = .ok (.ifCond .ne 9, 3) := by decide +kernel
theorem dX6_fixTransport_146 : decode cX6_fixTransport 146 = .ok (.ldc2_w 287, 3) := by decide +kernel
theorem dX6_fixTransport_149 : decode cX6_fixTransport 149 = .ok (.goto 6, 3) := by decide +kernel
theorem dX6_fixTransport_152 : decode cX6_fixTransport 152 = .ok (.iload 11, 2) := by decide +kernel
theorem dX6_fixTransport_154 : decode cX6_fixTransport 154 = .ok (.i2l, 1) := by decide +kernel
theorem dX6_fixTransport_155 : decode cX6_fixTransport 155 = .ok (.invokevirtual 99, 3) := by decide +kernel
theorem dX6_fixTransport_158 : decode cX6_fixTransport 158 = .ok (.return_, 1) := by decide +kernel
theorem dX6_errorFromFour_0 : decode cX6_errorFromFour 0 = .ok (.aload_n 1, 1) := by decide +kernel
theorem dX6_errorFromFour_1 : decode cX6_errorFromFour 1 = .ok (.getfield 219, 3) := by decide +kernel
theorem dX6_errorFromFour_4 : decode cX6_errorFromFour 4 = .ok (.aload_n 1, 1) := by decide +kernel
theorem dX6_errorFromFour_5 : decode cX6_errorFromFour 5 = .ok (.getfield 275, 3) := by decide +kernel
theorem dX6_errorFromFour_8 : decode cX6_errorFromFour 8 = .ok (.iadd, 1) := by decide +kernel
theorem dX6_errorFromFour_9 : decode cX6_errorFromFour 9 = .ok (.istore_n 3, 1) := by decide +kernel
theorem dX6_errorFromFour_10 : decode cX6_errorFromFour 10 = .ok (.aload_n 0, 1) := by decide +kernel
theorem dX6_errorFromFour_11 : decode cX6_errorFromFour 11 = .ok (.getfield 14, 3) := by decide +kernel
theorem dX6_errorFromFour_14 : decode cX6_errorFromFour 14 = .ok (.aload_n 1, 1) := by decide +kernel
theorem dX6_errorFromFour_15 : decode cX6_errorFromFour 15 = .ok (.getfield 219, 3) := by decide +kernel
theorem dX6_errorFromFour_18 : decode cX6_errorFromFour 18 = .ok (.iload_n 3, 1) := by decide +kernel
theorem dX6_errorFromFour_19 : decode cX6_errorFromFour 19 = .ok (.invokevirtual 163, 3) := by decide +kernel
theorem dX6_errorFromFour_22 : decode cX6_errorFromFour 22 = .ok (.invokestatic 305, 3) := by decide +kernel
theorem dX6_errorFromFour_25 : decode cX6_errorFromFour 25 = .ok (.ldc_w 308, 3) := by decide +kernel
theorem dX6_errorFromFour_28 : decode cX6_errorFromFour 28 = .ok (.if_icmp .eq 5, 3) := by decide +kernel
theorem dX6_errorFromFour_31 : decode cX6_errorFromFour 31 = .ok (.iconst 4, 1) := by decide +kernel
theorem dX6_errorFromFour_32 : decode cX6_errorFromFour 32 = .ok (.ireturn, 1) := by decide +kernel
theorem dX6_errorFromFour_33 : decode cX6_errorFromFour 33 = .ok (.aload_n 0, 1) := by decide +kernel
theorem dX6_errorFromFour_34 : decode cX6_errorFromFour 34 = .ok (.getfield 14, 3) := by decide +kernel
theorem dX6_errorFromFour_37 : decode cX6_errorFromFour 37 = .ok (.aload_n 1, 1) := by decide +kernel
theorem dX6_errorFromFour_38 : decode cX6_errorFromFour 38 = .ok (.getfield 219, 3) := by decide +kernel
theorem dX6_errorFromFour_41 : decode cX6_errorFromFour 41 = .ok (.invokevirtual 158, 3) := by decide +kernel
theorem dX6_errorFromFour_44 : decode cX6_errorFromFour 44 = .ok (.aload_n 0, 1) := by decide +kernel
theorem dX6_errorFromFour_45 : decode cX6_errorFromFour 45 = .ok (.getfield 14, 3) := by decide +kernel
theorem dX6_errorFromFour_48 : decode cX6_errorFromFour 48 = .ok (.aload_n 1, 1) := by decide +kernel
theorem dX6_errorFromFour_49 : decode cX6_errorFromFour 49 = .ok (.getfield 219, 3) := by decide +kernel
theorem dX6_errorFromFour_52 : decode cX6_errorFromFour 52 = .ok (.iconst 1, 1) := by decide +kernel
theorem dX6_errorFromFour_53 : decode cX6_errorFromFour 53 = .ok (.iadd, 1) := by decide +kernel
theorem dX6_errorFromFour_54 : decode cX6_errorFromFour 54 = .ok (.invokevirtual 158, 3) := by decide +kernel
theorem dX6_errorFromFour_57 : decode cX6_errorFromFour 57 = .ok (.invokestatic 309, 3) := by decide +kernel
theorem dX6_errorFromFour_60 : decode cX6_errorFromFour 60 = .ok (.istore 4, 2) := by decide +kernel
theorem dX6_errorFromFour_62 : decode cX6_errorFromFour 62 = .ok (.iload 4, 2) := by decide +kernel
theorem dX6_errorFromFour_64 : decode cX6_errorFromFour 64 = .ok (.iconst (-1), 1) := by decide +kernel
theorem dX6_errorFromFour_65 : decode cX6_errorFromFour 65 = .ok (.if_icmp .eq 30, 3) := by decide +kernel
theorem dX6_errorFromFour_68 : decode cX6_errorFromFour 68 = .ok (.aload_n 2, 1) := by decide +kernel
theorem dX6_errorFromFour_69 : decode cX6_errorFromFour 69 = .ok (.aload_n 0, 1) := by decide +kernel
theorem dX6_errorFromFour_70 : decode cX6_errorFromFour 70 = .ok (.getfield 14, 3) := by decide +kernel
theorem dX6_errorFromFour_73 : decode cX6_errorFromFour 73 = .ok (.aload_n 1, 1) := by decide +kernel
theorem dX6_errorFromFour_74 : decode cX6_errorFromFour 74 = .ok (.getfield 219, 3) := by decide +kernel
theorem dX6_errorFromFour_77 : decode cX6_errorFromFour 77 = .ok (.bipush 8, 2) := by decide +kernel
theorem dX6_errorFromFour_79 : decode cX6_errorFromFour 79 = .ok (.iadd, 1) := by decide +kernel
theorem dX6_errorFromFour_80 : decode cX6_errorFromFour 80 = .ok (.iload_n 3, 1) := by decide +kernel
theorem dX6_errorFromFour_81 : decode cX6_errorFromFour 81 = .ok (.invokevirtual 313, 3) := by decide +kernel
theorem dX6_errorFromFour_84 : decode cX6_errorFromFour 84 = .ok (.ifCond .eq 11, 3) := by decide +kernel
theorem dX6_errorFromFour_87 : decode cX6_errorFromFour 87 = .ok (.aload_n 0, 1) := by decide +kernel
theorem dX6_errorFromFour_88 : decode cX6_errorFromFour 88 = .ok (.aload_n 2, 1) := by decide +kernel
theorem dX6_errorFromFour_89 : decode cX6_errorFromFour 89 = .ok (.invokevirtual 317, 3) := by decide +kernel
theorem dX6_errorFromFour_92 : decode cX6_errorFromFour 92 = .ok (.ifCond .ne 6, 3) := by decide +kernel
theorem dX6_errorFromFour_95 : decode cX6_errorFromFour 95 = .ok (.bipush 8, 2) := by decide +kernel
theorem dX6_errorFromFour_97 : decode cX6_errorFromFour 97 = .ok (.ireturn, 1) := by decide +kernel
theorem dX6_errorFromFour_98 : decode cX6_errorFromFour 98 = .ok (.aload_n 0, 1) := by decide +kernel
theorem dX6_errorFromFour_99 : decode cX6_errorFromFour 99 = .ok (.iload 4, 2) := by decide +kernel
theorem dX6_errorFromFour_101 : decode cX6_errorFromFour 101 = .ok (.aload_n 1, 1) := by decide +kernel
theorem dX6_errorFromFour_102 : decode cX6_errorFromFour 102 = .ok (.aload_n 2, 1) := by decide +kernel
theorem dX6_errorFromFour_103 : decode cX6_errorFromFour 103 = .ok (.invokevirtual 321, 3) := by decide +kernel
theorem dX6_errorFromFour_106 : decode cX6_errorFromFour 106 = .ok (.istore 5, 2) := by decide +kernel
theorem dX6_errorFromFour_108 : decode cX6_errorFromFour 108 = .ok (.iload 5, 2) := by decide +kernel
theorem dX6_errorFromFour_110 : decode cX6_errorFromFour 110 = .ok (.iconst (-1), 1) := by decide +kernel
theorem dX6_errorFromFour_111 : decode cX6_errorFromFour 111 = .ok (.if_icmp .ne 6, 3) := by decide +kernel
theorem dX6_errorFromFour_114 : decode cX6_errorFromFour 114 = .ok (.bipush 8, 2) := by decide +kernel
theorem dX6_errorFromFour_116 : decode cX6_errorFromFour 116 = .ok (.ireturn, 1) := by decide +kernel
theorem dX6_errorFromFour_117 : decode cX6_errorFromFour 117 = .ok (.aload_n 2, 1) := by decide +kernel
theorem dX6_errorFromFour_118 : decode cX6_errorFromFour 118 = .ok (.aload_n 0, 1) := by decide +kernel
theorem dX6_errorFromFour_119 : decode cX6_errorFromFour 119 = .ok (.aload_n 2, 1) := by decide +kernel
theorem dX6_errorFromFour_120 : decode cX6_errorFromFour 120 = .ok (.invokevirtual 209, 3) := by decide +kernel
theorem dX6_errorFromFour_123 : decode cX6_errorFromFour 123 = .ok (.putfield 213, 3) := by decide +kernel
theorem dX6_errorFromFour_126 : decode cX6_errorFromFour 126 = .ok (.aload_n 0, 1) := by decide +kernel
theorem dX6_errorFromFour_127 : decode cX6_errorFromFour 127 = .ok (.aload_n 2, 1) := by decide +kernel
theorem dX6_errorFromFour_128 : decode cX6_errorFromFour 128 = .ok (.invokevirtual 325, 3) := by decide +kernel
theorem dX6_errorFromFour_131 : decode cX6_errorFromFour 131 = .ok (.istore 6, 2) := by decide +kernel
theorem dX6_errorFromFour_133 : decode cX6_errorFromFour 133 = .ok (.aload_n 0, 1) := by decide +kernel
theorem dX6_errorFromFour_134 : decode cX6_errorFromFour 134 = .ok (.aload_n 2, 1) := by decide +kernel
theorem dX6_errorFromFour_135 : decode cX6_errorFromFour 135 = .ok (.iload 6, 2) := by decide +kernel
theorem dX6_errorFromFour_137 : decode cX6_errorFromFour 137 = .ok (.invokevirtual 280, 3) := by decide +kernel
theorem dX6_errorFromFour_140 : decode cX6_errorFromFour 140 = .ok (.aload_n 0, 1) := by decide +kernel
theorem dX6_errorFromFour_141 : decode cX6_errorFromFour 141 = .ok (.getfield 18, 3) := by decide +kernel
theorem dX6_errorFromFour_144 : decode cX6_errorFromFour 144 = .ok (.iload 6, 2) := by decide +kernel
theorem dX6_errorFromFour_146 : decode cX6_errorFromFour 146 = .ok (.aload_n 2, 1) := by decide +kernel
theorem dX6_errorFromFour_147 : decode cX6_errorFromFour 147 = .ok (.getfield 328, 3) := by decide +kernel
theorem dX6_errorFromFour_150 : decode cX6_errorFromFour 150 = .ok (.iadd, 1) := by decide +kernel
theorem dX6_errorFromFour_151 : decode cX6_errorFromFour 151 = .ok (.sipush 1240, 3) := by decide +kernel
theorem dX6_errorFromFour_154 : decode cX6_errorFromFour 154 = .ok (.invokestatic 329, 3) := by decide +kernel
theorem dX6_errorFromFour_157 : decode cX6_errorFromFour 157 = .ok (.putfield 89, 3) := by decide +kernel
theorem dX6_errorFromFour_160 : decode cX6_errorFromFour 160 = .ok (.aload_n 0, 1) := by decide +kernel
theorem dX6_errorFromFour_161 : decode cX6_errorFromFour 161 = .ok (.iload 4, 2) := by decide +kernel
theorem dX6_errorFromFour_163 : decode cX6_errorFromFour 163 = .ok (.iload 5, 2) := by decide +kernel
theorem dX6_errorFromFour_165 : decode cX6_errorFromFour 165 = .ok (.aload_n 1, 1) := by decide +kernel
theorem dX6_errorFromFour_166 : decode cX6_errorFromFour 166 = .ok (.getfield 213, 3) := by decide +kernel
theorem dX6_errorFromFour_169 : decode cX6_errorFromFour 169 = .ok (.aload_n 0, 1) := by decide +kernel
theorem dX6_errorFromFour_170 : decode cX6_errorFromFour 170 = .ok (.getfield 18, 3) := by decide +kernel
theorem dX6_errorFromFour_173 : decode cX6_errorFromFour 173 = .ok (.getfield 89, 3) := by decide +kernel
theorem dX6_errorFromFour_176 : decode cX6_errorFromFour 176 = .ok (.i2l, 1) := by decide +kernel
theorem dX6_errorFromFour_177 : decode cX6_errorFromFour 177 = .ok (.ladd, 1) := by decide +kernel
theorem dX6_errorFromFour_178 : decode cX6_errorFromFour 178 = .ok (.ldc2_w 289, 3) := by decide +kernel
theorem dX6_errorFromFour_181 : decode cX6_errorFromFour 181 = .ok (.ladd, 1) := by decide +kernel
theorem dX6_errorFromFour_182 : decode cX6_errorFromFour 182 = .ok (.invokevirtual 334, 3) := by decide +kernel
theorem dX6_errorFromFour_185 : decode cX6_errorFromFour 185 = .ok (.iconst 0, 1) := by decide +kernel
theorem dX6_errorFromFour_186 : decode cX6_errorFromFour 186 = .ok (.ireturn, 1) := by decide +kernel
theorem dX6_innerFourFits_0 : decode cX6_innerFourFits 0 = .ok (.aload_n 0, 1) := by decide +kernel
theorem dX6_innerFourFits_1 : decode cX6_innerFourFits 1 = .ok (.getfield 31, 3) := by decide +kernel
theorem dX6_innerFourFits_4 : decode cX6_innerFourFits 4 = .ok (.aload_n 1, 1) := by decide +kernel
theorem dX6_innerFourFits_5 : decode cX6_innerFourFits 5 = .ok (.getfield 190, 3) := by decide +kernel
theorem dX6_innerFourFits_8 : decode cX6_innerFourFits 8 = .ok (.invokevirtual 171, 3) := by decide +kernel
theorem dX6_innerFourFits_11 : decode cX6_innerFourFits 11 = .ok (.ifCond .eq 27, 3) := by decide +kernel
theorem dX6_innerFourFits_14 : decode cX6_innerFourFits 14 = .ok (.aload_n 0, 1) := by decide +kernel
theorem dX6_innerFourFits_15 : decode cX6_innerFourFits 15 = .ok (.getfield 31, 3) := by decide +kernel
theorem dX6_innerFourFits_18 : decode cX6_innerFourFits 18 = .ok (.aload_n 1, 1) := by decide +kernel
theorem dX6_innerFourFits_19 : decode cX6_innerFourFits 19 = .ok (.getfield 193, 3) := by decide +kernel
theorem dX6_innerFourFits_22 : decode cX6_innerFourFits 22 = .ok (.invokevirtual 171, 3) := by decide +kernel
theorem dX6_innerFourFits_25 : decode cX6_innerFourFits 25 = .ok (.ifCond .eq 13, 3) := by decide +kernel
theorem dX6_innerFourFits_28 : decode cX6_innerFourFits 28 = .ok (.aload_n 1, 1) := by decide +kernel
theorem dX6_innerFourFits_29 : decode cX6_innerFourFits 29 = .ok (.getfield 216, 3) := by decide +kernel
theorem dX6_innerFourFits_32 : decode cX6_innerFourFits 32 = .ok (.invokestatic 243, 3) := by decide +kernel
theorem dX6_innerFourFits_35 : decode cX6_innerFourFits 35 = .ok (.ifCond .eq 5, 3) := by decide +kernel
theorem dX6_innerFourFits_38 : decode cX6_innerFourFits 38 = .ok (.iconst 0, 1) := by decide +kernel
theorem dX6_innerFourFits_39 : decode cX6_innerFourFits 39 = .ok (.ireturn, 1) := by decide +kernel
theorem dX6_innerFourFits_40 : decode cX6_innerFourFits 40 = .ok (.aload_n 1, 1) := by decide +kernel
theorem dX6_innerFourFits_41 : decode cX6_innerFourFits 41 = .ok (.getfield 216, 3) := by decide +kernel
theorem dX6_innerFourFits_44 : decode cX6_innerFourFits 44 = .ok (.iconst 1, 1) := by decide +kernel
theorem dX6_innerFourFits_45 : decode cX6_innerFourFits 45 = .ok (.if_icmp .eq 5, 3) := by decide +kernel
theorem dX6_innerFourFits_48 : decode cX6_innerFourFits 48 = .ok (.iconst 1, 1) := by decide +kernel
theorem dX6_innerFourFits_49 : decode cX6_innerFourFits 49 = .ok (.ireturn, 1) := by decide +kernel
theorem dX6_innerFourFits_50 : decode cX6_innerFourFits 50 = .ok (.aload_n 1, 1) := by decide +kernel
theorem dX6_innerFourFits_51 : decode cX6_innerFourFits 51 = .ok (.invokevirtual 246, 3) := by decide +kernel
theorem dX6_innerFourFits_54 : decode cX6_innerFourFits 54 = .ok (.ifCond .ne 32, 3) := by decide +kernel
theorem dX6_innerFourFits_57 : decode cX6_innerFourFits 57 = .ok (.aload_n 1, 1) := by decide +kernel
theorem dX6_innerFourFits_58 : decode cX6_innerFourFits 58 = .ok (.getfield 328, 3) := by decide +kernel
theorem dX6_innerFourFits_61 : decode cX6_innerFourFits 61 = .ok (.iconst 4, 1) := by decide +kernel
theorem dX6_innerFourFits_62 : decode cX6_innerFourFits 62 = .ok (.if_icmp .lt 24, 3) := by decide +kernel
theorem dX6_innerFourFits_65 : decode cX6_innerFourFits 65 = .ok (.aload_n 0, 1) := by decide +kernel
theorem dX6_innerFourFits_66 : decode cX6_innerFourFits 66 = .ok (.getfield 14, 3) := by decide +kernel
theorem dX6_innerFourFits_69 : decode cX6_innerFourFits 69 = .ok (.aload_n 1, 1) := by decide +kernel
theorem dX6_innerFourFits_70 : decode cX6_innerFourFits 70 = .ok (.getfield 219, 3) := by decide +kernel
theorem dX6_innerFourFits_73 : decode cX6_innerFourFits 73 = .ok (.invokevirtual 158, 3) := by decide +kernel
theorem dX6_innerFourFits_76 : decode cX6_innerFourFits 76 = .ok (.invokestatic 257, 3) := by decide +kernel
theorem dX6_innerFourFits_79 : decode cX6_innerFourFits 79 = .ok (.ifCond .eq 7, 3) := by decide +kernel
theorem dX6_innerFourFits_82 : decode cX6_innerFourFits 82 = .ok (.iconst 1, 1) := by decide +kernel
theorem dX6_innerFourFits_83 : decode cX6_innerFourFits 83 = .ok (.goto 4, 3) := by decide +kernel
theorem dX6_innerFourFits_86 : decode cX6_innerFourFits 86 = .ok (.iconst 0, 1) := by decide +kernel
theorem dX6_innerFourFits_87 : decode cX6_innerFourFits 87 = .ok (.ireturn, 1) := by decide +kernel
theorem dX6_errorToSix_0 : decode cX6_errorToSix 0 = .ok (.iload_n 0, 1) := by decide +kernel
theorem dX6_errorToSix_1 : decode cX6_errorToSix 1 = .ok (.iconst 3, 1) := by decide +kernel
theorem dX6_errorToSix_2 : decode cX6_errorToSix 2 = .ok (.if_icmp .ne 12, 3) := by decide +kernel
theorem dX6_errorToSix_5 : decode cX6_errorToSix 5 = .ok (.getstatic 337, 3) := by decide +kernel
theorem dX6_errorToSix_8 : decode cX6_errorToSix 8 = .ok (.iload_n 1, 1) := by decide +kernel
theorem dX6_errorToSix_9 : decode cX6_errorToSix 9 = .ok (.i2l, 1) := by decide +kernel
theorem dX6_errorToSix_10 : decode cX6_errorToSix 10 = .ok (.invokestatic 340, 3) := by decide +kernel
theorem dX6_errorToSix_13 : decode cX6_errorToSix 13 = .ok (.ireturn, 1) := by decide +kernel
theorem dX6_errorToSix_14 : decode cX6_errorToSix 14 = .ok (.iload_n 0, 1) := by decide +kernel
theorem dX6_errorToSix_15 : decode cX6_errorToSix 15 = .ok (.bipush 11, 2) := by decide +kernel
theorem dX6_errorToSix_17 : decode cX6_errorToSix 17 = .ok (.if_icmp .ne 9, 3) := by decide +kernel
theorem dX6_errorToSix_20 : decode cX6_errorToSix 20 = .ok (.sipush 768, 3) := by decide +kernel
theorem dX6_errorToSix_23 : decode cX6_errorToSix 23 = .ok (.iload_n 1, 1) := by decide +kernel
theorem dX6_errorToSix_24 : decode cX6_errorToSix 24 = .ok (.ior, 1) := by decide +kernel
theorem dX6_errorToSix_25 : decode cX6_errorToSix 25 = .ok (.ireturn, 1) := by decide +kernel
theorem dX6_errorToSix_26 : decode cX6_errorToSix 26 = .ok (.iload_n 1, 1) := by decide +kernel
theorem dX6_errorToSix_27 : decode cX6_errorToSix 27 = .ok (.ifCond .eq 8, 3) := by decide +kernel
theorem dX6_errorToSix_30 : decode cX6_errorToSix 30 = .ok (.iload_n 1, 1) := by decide +kernel
theorem dX6_errorToSix_31 : decode cX6_errorToSix 31 = .ok (.iconst 2, 1) := by decide +kernel
theorem dX6_errorToSix_32 : decode cX6_errorToSix 32 = .ok (.if_icmp .ne 9, 3) := by decide +kernel
theorem dX6_errorToSix_35 : decode cX6_errorToSix 35 = .ok (.sipush 1024, 3) := by decide +kernel
theorem dX6_errorToSix_38 : decode cX6_errorToSix 38 = .ok (.goto 4, 3) := by decide +kernel
theorem dX6_errorToSix_41 : decode cX6_errorToSix 41 = .ok (.iconst (-1), 1) := by decide +kernel
theorem dX6_errorToSix_42 : decode cX6_errorToSix 42 = .ok (.ireturn, 1) := by decide +kernel
theorem dX6_secondToSix_0 : decode cX6_secondToSix 0 = .ok (.iload_n 1, 1) := by decide +kernel
theorem dX6_secondToSix_1 : decode cX6_secondToSix 1 = .ok (.lookupswitch 82 #[(512, 59), (1024, 38), (1025, 35)], 35) := by decide +kernel
theorem dX6_secondToSix_36 : decode cX6_secondToSix 36 = .ok (.bipush 6, 2) := by decide +kernel
theorem dX6_secondToSix_38 : decode cX6_secondToSix 38 = .ok (.ireturn, 1) := by decide +kernel
theorem dX6_secondToSix_39 : decode cX6_secondToSix 39 = .ok (.getstatic 344, 3) := by decide +kernel
theorem dX6_secondToSix_42 : decode cX6_secondToSix 42 = .ok (.aload_n 0, 1) := by decide +kernel
theorem dX6_secondToSix_43 : decode cX6_secondToSix 43 = .ok (.getfield 14, 3) := by decide +kernel
theorem dX6_secondToSix_46 : decode cX6_secondToSix 46 = .ok (.aload_n 2, 1) := by decide +kernel
theorem dX6_secondToSix_47 : decode cX6_secondToSix 47 = .ok (.getfield 219, 3) := by decide +kernel
theorem dX6_secondToSix_50 : decode cX6_secondToSix 50 = .ok (.iconst 4, 1) := by decide +kernel
theorem dX6_secondToSix_51 : decode cX6_secondToSix 51 = .ok (.iadd, 1) := by decide +kernel
theorem dX6_secondToSix_52 : decode cX6_secondToSix 52 = .ok (.invokevirtual 158, 3) := by decide +kernel
theorem dX6_secondToSix_55 : decode cX6_secondToSix 55 = .ok (.i2l, 1) := by decide +kernel
theorem dX6_secondToSix_56 : decode cX6_secondToSix 56 = .ok (.invokestatic 340, 3) := by decide +kernel
theorem dX6_secondToSix_59 : decode cX6_secondToSix 59 = .ok (.ireturn, 1) := by decide +kernel
theorem dX6_secondToSix_60 : decode cX6_secondToSix 60 = .ok (.aload_n 0, 1) := by decide +kernel
theorem dX6_secondToSix_61 : decode cX6_secondToSix 61 = .ok (.aload_n 0, 1) := by decide +kernel
theorem dX6_secondToSix_62 : decode cX6_secondToSix 62 = .ok (.getfield 14, 3) := by decide +kernel
theorem dX6_secondToSix_65 : decode cX6_secondToSix 65 = .ok (.aload_n 2, 1) := by decide +kernel
theorem dX6_secondToSix_66 : decode cX6_secondToSix 66 = .ok (.getfield 219, 3) := by decide +kernel
theorem dX6_secondToSix_69 : decode cX6_secondToSix 69 = .ok (.bipush 6, 2) := by decide +kernel
theorem dX6_secondToSix_71 : decode cX6_secondToSix 71 = .ok (.iadd, 1) := by decide +kernel
theorem dX6_secondToSix_72 : decode cX6_secondToSix 72 = .ok (.invokevirtual 272, 3) := by decide +kernel
theorem dX6_secondToSix_75 : decode cX6_secondToSix 75 = .ok (.aload_n 3, 1) := by decide +kernel
theorem dX6_secondToSix_76 : decode cX6_secondToSix 76 = .ok (.getfield 347, 3) := by decide +kernel
theorem dX6_secondToSix_79 : decode cX6_secondToSix 79 = .ok (.invokevirtual 350, 3) := by decide +kernel
theorem dX6_secondToSix_82 : decode cX6_secondToSix 82 = .ok (.ireturn, 1) := by decide +kernel
theorem dX6_secondToSix_83 : decode cX6_secondToSix 83 = .ok (.iconst 0, 1) := by decide +kernel
theorem dX6_secondToSix_84 : decode cX6_secondToSix 84 = .ok (.ireturn, 1) := by decide +kernel
theorem dX6_mtuToSix_0 : decode cX6_mtuToSix 0 = .ok (.iload_n 1, 1) := by decide +kernel
theorem dX6_mtuToSix_1 : decode cX6_mtuToSix 1 = .ok (.ifCond .ne 10, 3) := by decide +kernel
theorem dX6_mtuToSix_4 : decode cX6_mtuToSix 4 = .ok (.iload_n 2, 1) := by decide +kernel
theorem dX6_mtuToSix_5 : decode cX6_mtuToSix 5 = .ok (.invokestatic 353, 3) := by decide +kernel
theorem dX6_mtuToSix_8 : decode cX6_mtuToSix 8 = .ok (.goto 4, 3) := by decide +kernel
theorem dX6_mtuToSix_11 : decode cX6_mtuToSix 11 = .ok (.iload_n 1, 1) := by decide +kernel
theorem dX6_mtuToSix_12 : decode cX6_mtuToSix 12 = .ok (.bipush 20, 2) := by decide +kernel
theorem dX6_mtuToSix_14 : decode cX6_mtuToSix 14 = .ok (.iadd, 1) := by decide +kernel
theorem dX6_mtuToSix_15 : decode cX6_mtuToSix 15 = .ok (.istore_n 3, 1) := by decide +kernel
theorem dX6_mtuToSix_16 : decode cX6_mtuToSix 16 = .ok (.sipush 1280, 3) := by decide +kernel
theorem dX6_mtuToSix_19 : decode cX6_mtuToSix 19 = .ok (.iload_n 3, 1) := by decide +kernel
theorem dX6_mtuToSix_20 : decode cX6_mtuToSix 20 = .ok (.aload_n 0, 1) := by decide +kernel
theorem dX6_mtuToSix_21 : decode cX6_mtuToSix 21 = .ok (.getfield 76, 3) := by decide +kernel
theorem dX6_mtuToSix_24 : decode cX6_mtuToSix 24 = .ok (.aload_n 0, 1) := by decide +kernel
theorem dX6_mtuToSix_25 : decode cX6_mtuToSix 25 = .ok (.getfield 73, 3) := by decide +kernel
theorem dX6_mtuToSix_28 : decode cX6_mtuToSix 28 = .ok (.bipush 20, 2) := by decide +kernel
theorem dX6_mtuToSix_30 : decode cX6_mtuToSix 30 = .ok (.iadd, 1) := by decide +kernel
theorem dX6_mtuToSix_31 : decode cX6_mtuToSix 31 = .ok (.invokestatic 329, 3) := by decide +kernel
theorem dX6_mtuToSix_34 : decode cX6_mtuToSix 34 = .ok (.invokestatic 329, 3) := by decide +kernel
theorem dX6_mtuToSix_37 : decode cX6_mtuToSix 37 = .ok (.invokestatic 356, 3) := by decide +kernel
theorem dX6_mtuToSix_40 : decode cX6_mtuToSix 40 = .ok (.ireturn, 1) := by decide +kernel
theorem dX6_plateauBelow_0 : decode cX6_plateauBelow 0 = .ok (.getstatic 359, 3) := by decide +kernel
theorem dX6_plateauBelow_3 : decode cX6_plateauBelow 3 = .ok (.astore_n 1, 1) := by decide +kernel
theorem dX6_plateauBelow_4 : decode cX6_plateauBelow 4 = .ok (.aload_n 1, 1) := by decide +kernel
theorem dX6_plateauBelow_5 : decode cX6_plateauBelow 5 = .ok (.arraylength, 1) := by decide +kernel
theorem dX6_plateauBelow_6 : decode cX6_plateauBelow 6 = .ok (.istore_n 2, 1) := by decide +kernel
theorem dX6_plateauBelow_7 : decode cX6_plateauBelow 7 = .ok (.iconst 0, 1) := by decide +kernel
theorem dX6_plateauBelow_8 : decode cX6_plateauBelow 8 = .ok (.istore_n 3, 1) := by decide +kernel
theorem dX6_plateauBelow_9 : decode cX6_plateauBelow 9 = .ok (.iload_n 3, 1) := by decide +kernel
theorem dX6_plateauBelow_10 : decode cX6_plateauBelow 10 = .ok (.iload_n 2, 1) := by decide +kernel
theorem dX6_plateauBelow_11 : decode cX6_plateauBelow 11 = .ok (.if_icmp .ge 23, 3) := by decide +kernel
theorem dX6_plateauBelow_14 : decode cX6_plateauBelow 14 = .ok (.aload_n 1, 1) := by decide +kernel
theorem dX6_plateauBelow_15 : decode cX6_plateauBelow 15 = .ok (.iload_n 3, 1) := by decide +kernel
theorem dX6_plateauBelow_16 : decode cX6_plateauBelow 16 = .ok (.iaload, 1) := by decide +kernel
theorem dX6_plateauBelow_17 : decode cX6_plateauBelow 17 = .ok (.istore 4, 2) := by decide +kernel
theorem dX6_plateauBelow_19 : decode cX6_plateauBelow 19 = .ok (.iload 4, 2) := by decide +kernel
theorem dX6_plateauBelow_21 : decode cX6_plateauBelow 21 = .ok (.iload_n 0, 1) := by decide +kernel
theorem dX6_plateauBelow_22 : decode cX6_plateauBelow 22 = .ok (.if_icmp .ge 6, 3) := by decide +kernel
theorem dX6_plateauBelow_25 : decode cX6_plateauBelow 25 = .ok (.iload 4, 2) := by decide +kernel
theorem dX6_plateauBelow_27 : decode cX6_plateauBelow 27 = .ok (.ireturn, 1) := by decide +kernel
theorem dX6_plateauBelow_28 : decode cX6_plateauBelow 28 = .ok (.iinc 3 1, 3) := by decide +kernel
theorem dX6_plateauBelow_31 : decode cX6_plateauBelow 31 = .ok (.goto (-22), 3) := by decide +kernel
theorem dX6_plateauBelow_34 : decode cX6_plateauBelow 34 = .ok (.bipush 68, 2) := by decide +kernel
theorem dX6_plateauBelow_36 : decode cX6_plateauBelow 36 = .ok (.ireturn, 1) := by decide +kernel
theorem dX6_putInnerSix_0 : decode cX6_putInnerSix 0 = .ok (.aload_n 1, 1) := by decide +kernel
theorem dX6_putInnerSix_1 : decode cX6_putInnerSix 1 = .ok (.getfield 216, 3) := by decide +kernel
theorem dX6_putInnerSix_4 : decode cX6_putInnerSix 4 = .ok (.iconst 1, 1) := by decide +kernel
theorem dX6_putInnerSix_5 : decode cX6_putInnerSix 5 = .ok (.if_icmp .ne 8, 3) := by decide +kernel
theorem dX6_putInnerSix_8 : decode cX6_putInnerSix 8 = .ok (.bipush 58, 2) := by decide +kernel
theorem dX6_putInnerSix_10 : decode cX6_putInnerSix 10 = .ok (.goto 7, 3) := by decide +kernel
theorem dX6_putInnerSix_13 : decode cX6_putInnerSix 13 = .ok (.aload_n 1, 1) := by decide +kernel
theorem dX6_putInnerSix_14 : decode cX6_putInnerSix 14 = .ok (.getfield 216, 3) := by decide +kernel
theorem dX6_putInnerSix_17 : decode cX6_putInnerSix 17 = .ok (.istore_n 2, 1) := by decide +kernel
theorem dX6_putInnerSix_18 : decode cX6_putInnerSix 18 = .ok (.aload_n 1, 1) := by decide +kernel
theorem dX6_putInnerSix_19 : decode cX6_putInnerSix 19 = .ok (.invokevirtual 236, 3) := by decide +kernel
theorem dX6_putInnerSix_22 : decode cX6_putInnerSix 22 = .ok (.istore_n 3, 1) := by decide +kernel
theorem dX6_putInnerSix_23 : decode cX6_putInnerSix 23 = .ok (.aload_n 0, 1) := by decide +kernel
theorem dX6_putInnerSix_24 : decode cX6_putInnerSix 24 = .ok (.aload_n 0, 1) := by decide +kernel
theorem dX6_putInnerSix_25 : decode cX6_putInnerSix 25 = .ok (.getfield 18, 3) := by decide +kernel
theorem dX6_putInnerSix_28 : decode cX6_putInnerSix 28 = .ok (.bipush 8, 2) := by decide +kernel
theorem dX6_putInnerSix_30 : decode cX6_putInnerSix 30 = .ok (.aload_n 1, 1) := by decide +kernel
theorem dX6_putInnerSix_31 : decode cX6_putInnerSix 31 = .ok (.iload_n 3, 1) := by decide +kernel
theorem dX6_putInnerSix_32 : decode cX6_putInnerSix 32 = .ok (.aload_n 1, 1) := by decide +kernel
theorem dX6_putInnerSix_33 : decode cX6_putInnerSix 33 = .ok (.getfield 275, 3) := by decide +kernel
theorem dX6_putInnerSix_36 : decode cX6_putInnerSix 36 = .ok (.iadd, 1) := by decide +kernel
theorem dX6_putInnerSix_37 : decode cX6_putInnerSix 37 = .ok (.aload_n 1, 1) := by decide +kernel
theorem dX6_putInnerSix_38 : decode cX6_putInnerSix 38 = .ok (.invokevirtual 246, 3) := by decide +kernel
theorem dX6_putInnerSix_41 : decode cX6_putInnerSix 41 = .ok (.ifCond .eq 8, 3) := by decide +kernel
theorem dX6_putInnerSix_44 : decode cX6_putInnerSix 44 = .ok (.bipush 44, 2) := by decide +kernel
theorem dX6_putInnerSix_46 : decode cX6_putInnerSix 46 = .ok (.goto 4, 3) := by decide +kernel
theorem dX6_putInnerSix_49 : decode cX6_putInnerSix 49 = .ok (.iload_n 2, 1) := by decide +kernel
theorem dX6_putInnerSix_50 : decode cX6_putInnerSix 50 = .ok (.aload_n 1, 1) := by decide +kernel
theorem dX6_putInnerSix_51 : decode cX6_putInnerSix 51 = .ok (.getfield 203, 3) := by decide +kernel
theorem dX6_putInnerSix_54 : decode cX6_putInnerSix 54 = .ok (.invokevirtual 362, 3) := by decide +kernel
theorem dX6_putInnerSix_57 : decode cX6_putInnerSix 57 = .ok (.aload_n 1, 1) := by decide +kernel
theorem dX6_putInnerSix_58 : decode cX6_putInnerSix 58 = .ok (.invokevirtual 246, 3) := by decide +kernel
theorem dX6_putInnerSix_61 : decode cX6_putInnerSix 61 = .ok (.ifCond .eq 25, 3) := by decide +kernel
theorem dX6_putInnerSix_64 : decode cX6_putInnerSix 64 = .ok (.aload_n 0, 1) := by decide +kernel
theorem dX6_putInnerSix_65 : decode cX6_putInnerSix 65 = .ok (.getfield 18, 3) := by decide +kernel
theorem dX6_putInnerSix_68 : decode cX6_putInnerSix 68 = .ok (.bipush 48, 2) := by decide +kernel
theorem dX6_putInnerSix_70 : decode cX6_putInnerSix 70 = .ok (.iload_n 2, 1) := by decide +kernel
theorem dX6_putInnerSix_71 : decode cX6_putInnerSix 71 = .ok (.aload_n 1, 1) := by decide +kernel
theorem dX6_putInnerSix_72 : decode cX6_putInnerSix 72 = .ok (.getfield 284, 3) := by decide +kernel
theorem dX6_putInnerSix_75 : decode cX6_putInnerSix 75 = .ok (.aload_n 1, 1) := by decide +kernel
theorem dX6_putInnerSix_76 : decode cX6_putInnerSix 76 = .ok (.getfield 250, 3) := by decide +kernel
theorem dX6_putInnerSix_79 : decode cX6_putInnerSix 79 = .ok (.aload_n 1, 1) := by decide +kernel
theorem dX6_putInnerSix_80 : decode cX6_putInnerSix 80 = .ok (.getfield 366, 3) := by decide +kernel
theorem dX6_putInnerSix_83 : decode cX6_putInnerSix 83 = .ok (.invokestatic 369, 3) := by decide +kernel
theorem dX6_putInnerSix_86 : decode cX6_putInnerSix 86 = .ok (.bipush 48, 2) := by decide +kernel
theorem dX6_putInnerSix_88 : decode cX6_putInnerSix 88 = .ok (.iload_n 3, 1) := by decide +kernel
theorem dX6_putInnerSix_89 : decode cX6_putInnerSix 89 = .ok (.iadd, 1) := by decide +kernel
theorem dX6_putInnerSix_90 : decode cX6_putInnerSix 90 = .ok (.istore 4, 2) := by decide +kernel
theorem dX6_putInnerSix_92 : decode cX6_putInnerSix 92 = .ok (.aload_n 0, 1) := by decide +kernel
theorem dX6_putInnerSix_93 : decode cX6_putInnerSix 93 = .ok (.getfield 18, 3) := by decide +kernel
theorem dX6_putInnerSix_96 : decode cX6_putInnerSix 96 = .ok (.aload_n 0, 1) := by decide +kernel
theorem dX6_putInnerSix_97 : decode cX6_putInnerSix 97 = .ok (.getfield 14, 3) := by decide +kernel
theorem dX6_putInnerSix_100 : decode cX6_putInnerSix 100 = .ok (.aload_n 1, 1) := by decide +kernel
theorem dX6_putInnerSix_101 : decode cX6_putInnerSix 101 = .ok (.getfield 219, 3) := by decide +kernel
theorem dX6_putInnerSix_104 : decode cX6_putInnerSix 104 = .ok (.iload 4, 2) := by decide +kernel
theorem dX6_putInnerSix_106 : decode cX6_putInnerSix 106 = .ok (.aload_n 1, 1) := by decide +kernel
theorem dX6_putInnerSix_107 : decode cX6_putInnerSix 107 = .ok (.getfield 328, 3) := by decide +kernel
theorem dX6_putInnerSix_110 : decode cX6_putInnerSix 110 = .ok (.invokevirtual 276, 3) := by decide +kernel
theorem dX6_putInnerSix_113 : decode cX6_putInnerSix 113 = .ok (.iload 4, 2) := by decide +kernel
theorem dX6_putInnerSix_115 : decode cX6_putInnerSix 115 = .ok (.ireturn, 1) := by decide +kernel
theorem dX6_putMessage_0 : decode cX6_putMessage 0 = .ok (.aload_n 0, 1) := by decide +kernel
theorem dX6_putMessage_1 : decode cX6_putMessage 1 = .ok (.getfield 18, 3) := by decide +kernel
theorem dX6_putMessage_4 : decode cX6_putMessage 4 = .ok (.iconst 0, 1) := by decide +kernel
theorem dX6_putMessage_5 : decode cX6_putMessage 5 = .ok (.iconst 2, 1) := by decide +kernel
theorem dX6_putMessage_6 : decode cX6_putMessage 6 = .ok (.iload_n 1, 1) := by decide +kernel
theorem dX6_putMessage_7 : decode cX6_putMessage 7 = .ok (.i2l, 1) := by decide +kernel
theorem dX6_putMessage_8 : decode cX6_putMessage 8 = .ok (.invokevirtual 99, 3) := by decide +kernel
theorem dX6_putMessage_11 : decode cX6_putMessage 11 = .ok (.aload_n 0, 1) := by decide +kernel
theorem dX6_putMessage_12 : decode cX6_putMessage 12 = .ok (.getfield 18, 3) := by decide +kernel
theorem dX6_putMessage_15 : decode cX6_putMessage 15 = .ok (.iconst 2, 1) := by decide +kernel
theorem dX6_putMessage_16 : decode cX6_putMessage 16 = .ok (.iconst 2, 1) := by decide +kernel
theorem dX6_putMessage_17 : decode cX6_putMessage 17 = .ok (.lconst 0, 1) := by decide +kernel
theorem dX6_putMessage_18 : decode cX6_putMessage 18 = .ok (.invokevirtual 99, 3) := by decide +kernel
theorem dX6_putMessage_21 : decode cX6_putMessage 21 = .ok (.aload_n 0, 1) := by decide +kernel
theorem dX6_putMessage_22 : decode cX6_putMessage 22 = .ok (.getfield 18, 3) := by decide +kernel
theorem dX6_putMessage_25 : decode cX6_putMessage 25 = .ok (.iconst 4, 1) := by decide +kernel
theorem dX6_putMessage_26 : decode cX6_putMessage 26 = .ok (.iconst 4, 1) := by decide +kernel
theorem dX6_putMessage_27 : decode cX6_putMessage 27 = .ok (.iload_n 2, 1) := by decide +kernel
theorem dX6_putMessage_28 : decode cX6_putMessage 28 = .ok (.i2l, 1) := by decide +kernel
theorem dX6_putMessage_29 : decode cX6_putMessage 29 = .ok (.invokevirtual 99, 3) := by decide +kernel
theorem dX6_putMessage_32 : decode cX6_putMessage 32 = .ok (.aload_n 0, 1) := by decide +kernel
theorem dX6_putMessage_33 : decode cX6_putMessage 33 = .ok (.getfield 18, 3) := by decide +kernel
theorem dX6_putMessage_36 : decode cX6_putMessage 36 = .ok (.iconst 2, 1) := by decide +kernel
theorem dX6_putMessage_37 : decode cX6_putMessage 37 = .ok (.iconst 2, 1) := by decide +kernel
theorem dX6_putMessage_38 : decode cX6_putMessage 38 = .ok (.lload_n 3, 1) := by decide +kernel
theorem dX6_putMessage_39 : decode cX6_putMessage 39 = .ok (.aload_n 0, 1) := by decide +kernel
theorem dX6_putMessage_40 : decode cX6_putMessage 40 = .ok (.getfield 18, 3) := by decide +kernel
theorem dX6_putMessage_43 : decode cX6_putMessage 43 = .ok (.iconst 0, 1) := by decide +kernel
theorem dX6_putMessage_44 : decode cX6_putMessage 44 = .ok (.aload_n 0, 1) := by decide +kernel
theorem dX6_putMessage_45 : decode cX6_putMessage 45 = .ok (.getfield 18, 3) := by decide +kernel
theorem dX6_putMessage_48 : decode cX6_putMessage 48 = .ok (.getfield 89, 3) := by decide +kernel
theorem dX6_putMessage_51 : decode cX6_putMessage 51 = .ok (.invokevirtual 163, 3) := by decide +kernel
theorem dX6_putMessage_54 : decode cX6_putMessage 54 = .ok (.ladd, 1) := by decide +kernel
theorem dX6_putMessage_55 : decode cX6_putMessage 55 = .ok (.invokestatic 167, 3) := by decide +kernel
theorem dX6_putMessage_58 : decode cX6_putMessage 58 = .ok (.i2l, 1) := by decide +kernel
theorem dX6_putMessage_59 : decode cX6_putMessage 59 = .ok (.invokevirtual 99, 3) := by decide +kernel
theorem dX6_putMessage_62 : decode cX6_putMessage 62 = .ok (.return_, 1) := by decide +kernel
theorem dX6_sendSix_0 : decode cX6_sendSix 0 = .ok (.aload_n 1, 1) := by decide +kernel
theorem dX6_sendSix_1 : decode cX6_sendSix 1 = .ok (.getfield 216, 3) := by decide +kernel
theorem dX6_sendSix_4 : decode cX6_sendSix 4 = .ok (.iconst 1, 1) := by decide +kernel
theorem dX6_sendSix_5 : decode cX6_sendSix 5 = .ok (.if_icmp .ne 8, 3) := by decide +kernel
theorem dX6_sendSix_8 : decode cX6_sendSix 8 = .ok (.bipush 58, 2) := by decide +kernel
theorem dX6_sendSix_10 : decode cX6_sendSix 10 = .ok (.goto 7, 3) := by decide +kernel
theorem dX6_sendSix_13 : decode cX6_sendSix 13 = .ok (.aload_n 1, 1) := by decide +kernel
theorem dX6_sendSix_14 : decode cX6_sendSix 14 = .ok (.getfield 216, 3) := by decide +kernel
theorem dX6_sendSix_17 : decode cX6_sendSix 17 = .ok (.istore_n 2, 1) := by decide +kernel
theorem dX6_sendSix_18 : decode cX6_sendSix 18 = .ok (.aload_n 1, 1) := by decide +kernel
theorem dX6_sendSix_19 : decode cX6_sendSix 19 = .ok (.getfield 233, 3) := by decide +kernel
theorem dX6_sendSix_22 : decode cX6_sendSix 22 = .ok (.ifCond .ne 28, 3) := by decide +kernel
theorem dX6_sendSix_25 : decode cX6_sendSix 25 = .ok (.bipush 40, 2) := by decide +kernel
theorem dX6_sendSix_27 : decode cX6_sendSix 27 = .ok (.aload_n 1, 1) := by decide +kernel
theorem dX6_sendSix_28 : decode cX6_sendSix 28 = .ok (.invokevirtual 236, 3) := by decide +kernel
theorem dX6_sendSix_31 : decode cX6_sendSix 31 = .ok (.iadd, 1) := by decide +kernel
theorem dX6_sendSix_32 : decode cX6_sendSix 32 = .ok (.aload_n 0, 1) := by decide +kernel
theorem dX6_sendSix_33 : decode cX6_sendSix 33 = .ok (.getfield 18, 3) := by decide +kernel
theorem dX6_sendSix_36 : decode cX6_sendSix 36 = .ok (.getfield 89, 3) := by decide +kernel
theorem dX6_sendSix_39 : decode cX6_sendSix 39 = .ok (.iadd, 1) := by decide +kernel
theorem dX6_sendSix_40 : decode cX6_sendSix 40 = .ok (.sipush 1280, 3) := by decide +kernel
theorem dX6_sendSix_43 : decode cX6_sendSix 43 = .ok (.if_icmp .le 7, 3) := by decide +kernel
theorem dX6_sendSix_46 : decode cX6_sendSix 46 = .ok (.iconst 1, 1) := by decide +kernel
theorem dX6_sendSix_47 : decode cX6_sendSix 47 = .ok (.goto 4, 3) := by decide +kernel
theorem dX6_sendSix_50 : decode cX6_sendSix 50 = .ok (.iconst 0, 1) := by decide +kernel
theorem dX6_sendSix_51 : decode cX6_sendSix 51 = .ok (.istore_n 3, 1) := by decide +kernel
theorem dX6_sendSix_52 : decode cX6_sendSix 52 = .ok (.iload_n 3, 1) := by decide +kernel
theorem dX6_sendSix_53 : decode cX6_sendSix 53 = .ok (.ifCond .ne 10, 3) := by decide +kernel
theorem dX6_sendSix_56 : decode cX6_sendSix 56 = .ok (.aload_n 1, 1) := by decide +kernel
theorem dX6_sendSix_57 : decode cX6_sendSix 57 = .ok (.invokevirtual 246, 3) := by decide +kernel
theorem dX6_sendSix_60 : decode cX6_sendSix 60 = .ok (.ifCond .eq 7, 3) := by decide +kernel
theorem dX6_sendSix_63 : decode cX6_sendSix 63 = .ok (.iconst 1, 1) := by decide +kernel
theorem dX6_sendSix_64 : decode cX6_sendSix 64 = .ok (.goto 4, 3) := by decide +kernel
theorem dX6_sendSix_67 : decode cX6_sendSix 67 = .ok (.iconst 0, 1) := by decide +kernel
theorem dX6_sendSix_68 : decode cX6_sendSix 68 = .ok (.istore 4, 2) := by decide +kernel
theorem dX6_sendSix_70 : decode cX6_sendSix 70 = .ok (.iload 4, 2) := by decide +kernel
theorem dX6_sendSix_72 : decode cX6_sendSix 72 = .ok (.ifCond .eq 8, 3) := by decide +kernel
theorem dX6_sendSix_75 : decode cX6_sendSix 75 = .ok (.bipush 8, 2) := by decide +kernel
theorem dX6_sendSix_77 : decode cX6_sendSix 77 = .ok (.goto 4, 3) := by decide +kernel
theorem dX6_sendSix_80 : decode cX6_sendSix 80 = .ok (.iconst 0, 1) := by decide +kernel
theorem dX6_sendSix_81 : decode cX6_sendSix 81 = .ok (.istore 5, 2) := by decide +kernel
theorem dX6_sendSix_83 : decode cX6_sendSix 83 = .ok (.iconst 0, 1) := by decide +kernel
theorem dX6_sendSix_84 : decode cX6_sendSix 84 = .ok (.istore 6, 2) := by decide +kernel
theorem dX6_sendSix_86 : decode cX6_sendSix 86 = .ok (.iconst 0, 1) := by decide +kernel
theorem dX6_sendSix_87 : decode cX6_sendSix 87 = .ok (.istore 7, 2) := by decide +kernel
theorem dX6_sendSix_89 : decode cX6_sendSix 89 = .ok (.iload 7, 2) := by decide +kernel
theorem dX6_sendSix_91 : decode cX6_sendSix 91 = .ok (.bipush 49, 2) := by decide +kernel
theorem dX6_sendSix_93 : decode cX6_sendSix 93 = .ok (.if_icmp .ge 206, 3) := by decide +kernel
theorem dX6_sendSix_96 : decode cX6_sendSix 96 = .ok (.iload 6, 2) := by decide +kernel
theorem dX6_sendSix_98 : decode cX6_sendSix 98 = .ok (.aload_n 0, 1) := by decide +kernel
theorem dX6_sendSix_99 : decode cX6_sendSix 99 = .ok (.getfield 18, 3) := by decide +kernel
theorem dX6_sendSix_102 : decode cX6_sendSix 102 = .ok (.getfield 89, 3) := by decide +kernel
theorem dX6_sendSix_105 : decode cX6_sendSix 105 = .ok (.if_icmp .gt 194, 3) := by decide +kernel
theorem dX6_sendSix_108 : decode cX6_sendSix 108 = .ok (.aload_n 0, 1) := by decide +kernel
theorem dX6_sendSix_109 : decode cX6_sendSix 109 = .ok (.getfield 18, 3) := by decide +kernel
theorem dX6_sendSix_112 : decode cX6_sendSix 112 = .ok (.getfield 89, 3) := by decide +kernel
theorem dX6_sendSix_115 : decode cX6_sendSix 115 = .ok (.iload 6, 2) := by decide +kernel
theorem dX6_sendSix_117 : decode cX6_sendSix 117 = .ok (.isub, 1) := by decide +kernel
theorem dX6_sendSix_118 : decode cX6_sendSix 118 = .ok (.istore 8, 2) := by decide +kernel
theorem dX6_sendSix_120 : decode cX6_sendSix 120 = .ok (.iload_n 3, 1) := by decide +kernel
theorem dX6_sendSix_121 : decode cX6_sendSix 121 = .ok (.ifCond .eq 14, 3) := by decide +kernel
theorem dX6_sendSix_124 : decode cX6_sendSix 124 = .ok (.iload 8, 2) := by decide +kernel
theorem dX6_sendSix_126 : decode cX6_sendSix 126 = .ok (.sipush 1232, 3) := by decide +kernel
theorem dX6_sendSix_129 : decode cX6_sendSix 129 = .ok (.invokestatic 329, 3) := by decide +kernel
theorem dX6_sendSix_132 : decode cX6_sendSix 132 = .ok (.goto 5, 3) := by decide +kernel
theorem dX6_sendSix_135 : decode cX6_sendSix 135 = .ok (.iload 8, 2) := by decide +kernel
theorem dX6_sendSix_137 : decode cX6_sendSix 137 = .ok (.istore 9, 2) := by decide +kernel
theorem dX6_sendSix_139 : decode cX6_sendSix 139 = .ok (.aload_n 0, 1) := by decide +kernel
theorem dX6_sendSix_140 : decode cX6_sendSix 140 = .ok (.getfield 24, 3) := by decide +kernel
theorem dX6_sendSix_143 : decode cX6_sendSix 143 = .ok (.bipush 40, 2) := by decide +kernel
theorem dX6_sendSix_145 : decode cX6_sendSix 145 = .ok (.iload 5, 2) := by decide +kernel
theorem dX6_sendSix_147 : decode cX6_sendSix 147 = .ok (.iadd, 1) := by decide +kernel
theorem dX6_sendSix_148 : decode cX6_sendSix 148 = .ok (.iload 9, 2) := by decide +kernel
theorem dX6_sendSix_150 : decode cX6_sendSix 150 = .ok (.iadd, 1) := by decide +kernel
theorem dX6_sendSix_151 : decode cX6_sendSix 151 = .ok (.invokevirtual 373, 3) := by decide +kernel
theorem dX6_sendSix_154 : decode cX6_sendSix 154 = .ok (.istore 10, 2) := by decide +kernel
theorem dX6_sendSix_156 : decode cX6_sendSix 156 = .ok (.aload_n 0, 1) := by decide +kernel
theorem dX6_sendSix_157 : decode cX6_sendSix 157 = .ok (.aload_n 0, 1) := by decide +kernel
theorem dX6_sendSix_158 : decode cX6_sendSix 158 = .ok (.getfield 24, 3) := by decide +kernel
theorem dX6_sendSix_161 : decode cX6_sendSix 161 = .ok (.getfield 152, 3) := by decide +kernel
theorem dX6_sendSix_164 : decode cX6_sendSix 164 = .ok (.iload 10, 2) := by decide +kernel
theorem dX6_sendSix_166 : decode cX6_sendSix 166 = .ok (.aload_n 1, 1) := by decide +kernel
theorem dX6_sendSix_167 : decode cX6_sendSix 167 = .ok (.iload 5, 2) := by decide +kernel
theorem dX6_sendSix_169 : decode cX6_sendSix 169 = .ok (.iload 9, 2) := by decide +kernel
theorem dX6_sendSix_171 : decode cX6_sendSix 171 = .ok (.iadd, 1) := by decide +kernel
theorem dX6_sendSix_172 : decode cX6_sendSix 172 = .ok (.iload 4, 2) := by decide +kernel
theorem dX6_sendSix_174 : decode cX6_sendSix 174 = .ok (.ifCond .eq 8, 3) := by decide +kernel
theorem dX6_sendSix_177 : decode cX6_sendSix 177 = .ok (.bipush 44, 2) := by decide +kernel
theorem dX6_sendSix_179 : decode cX6_sendSix 179 = .ok (.goto 4, 3) := by decide +kernel
theorem dX6_sendSix_182 : decode cX6_sendSix 182 = .ok (.iload_n 2, 1) := by decide +kernel
theorem dX6_sendSix_183 : decode cX6_sendSix 183 = .ok (.aload_n 1, 1) := by decide +kernel
theorem dX6_sendSix_184 : decode cX6_sendSix 184 = .ok (.getfield 203, 3) := by decide +kernel
theorem dX6_sendSix_187 : decode cX6_sendSix 187 = .ok (.iconst 1, 1) := by decide +kernel
theorem dX6_sendSix_188 : decode cX6_sendSix 188 = .ok (.isub, 1) := by decide +kernel
theorem dX6_sendSix_189 : decode cX6_sendSix 189 = .ok (.invokevirtual 362, 3) := by decide +kernel
theorem dX6_sendSix_192 : decode cX6_sendSix 192 = .ok (.iload 4, 2) := by decide +kernel
theorem dX6_sendSix_194 : decode cX6_sendSix 194 = .ok (.ifCond .eq 56, 3) := by decide +kernel
theorem dX6_sendSix_197 : decode cX6_sendSix 197 = .ok (.iload 9, 2) := by decide +kernel
theorem dX6_sendSix_199 : decode cX6_sendSix 199 = .ok (.iload 8, 2) := by decide +kernel
theorem dX6_sendSix_201 : decode cX6_sendSix 201 = .ok (.if_icmp .lt 10, 3) := by decide +kernel
theorem dX6_sendSix_204 : decode cX6_sendSix 204 = .ok (.aload_n 1, 1) := by decide +kernel
theorem dX6_sendSix_205 : decode cX6_sendSix 205 = .ok (.getfield 250, 3) := by decide +kernel
theorem dX6_sendSix_208 : decode cX6_sendSix 208 = .ok (.ifCond .eq 7, 3) := by decide +kernel
theorem dX6_sendSix_211 : decode cX6_sendSix 211 = .ok (.iconst 1, 1) := by decide +kernel
theorem dX6_sendSix_212 : decode cX6_sendSix 212 = .ok (.goto 4, 3) := by decide +kernel
theorem dX6_sendSix_215 : decode cX6_sendSix 215 = .ok (.iconst 0, 1) := by decide +kernel
theorem dX6_sendSix_216 : decode cX6_sendSix 216 = .ok (.istore 11, 2) := by decide +kernel
theorem dX6_sendSix_218 : decode cX6_sendSix 218 = .ok (.aload_n 0, 1) := by decide +kernel
theorem dX6_sendSix_219 : decode cX6_sendSix 219 = .ok (.getfield 24, 3) := by decide +kernel
theorem dX6_sendSix_222 : decode cX6_sendSix 222 = .ok (.getfield 152, 3) := by decide +kernel
theorem dX6_sendSix_225 : decode cX6_sendSix 225 = .ok (.iload 10, 2) := by decide +kernel
theorem dX6_sendSix_227 : decode cX6_sendSix 227 = .ok (.bipush 40, 2) := by decide +kernel
theorem dX6_sendSix_229 : decode cX6_sendSix 229 = .ok (.iadd, 1) := by decide +kernel
theorem dX6_sendSix_230 : decode cX6_sendSix 230 = .ok (.iload_n 2, 1) := by decide +kernel
theorem dX6_sendSix_231 : decode cX6_sendSix 231 = .ok (.aload_n 1, 1) := by decide +kernel
theorem dX6_sendSix_232 : decode cX6_sendSix 232 = .ok (.getfield 284, 3) := by decide +kernel
theorem dX6_sendSix_235 : decode cX6_sendSix 235 = .ok (.iload 6, 2) := by decide +kernel
theorem dX6_sendSix_237 : decode cX6_sendSix 237 = .ok (.bipush 8, 2) := by decide +kernel
theorem dX6_sendSix_239 : decode cX6_sendSix 239 = .ok (.idiv, 1) := by decide +kernel
theorem dX6_sendSix_240 : decode cX6_sendSix 240 = .ok (.iadd, 1) := by decide +kernel
theorem dX6_sendSix_241 : decode cX6_sendSix 241 = .ok (.iload 11, 2) := by decide +kernel
theorem dX6_sendSix_243 : decode cX6_sendSix 243 = .ok (.aload_n 1, 1) := by decide +kernel
theorem dX6_sendSix_244 : decode cX6_sendSix 244 = .ok (.getfield 366, 3) := by decide +kernel
theorem dX6_sendSix_247 : decode cX6_sendSix 247 = .ok (.invokestatic 369, 3) := by decide +kernel
theorem dX6_sendSix_250 : decode cX6_sendSix 250 = .ok (.aload_n 0, 1) := by decide +kernel
theorem dX6_sendSix_251 : decode cX6_sendSix 251 = .ok (.getfield 24, 3) := by decide +kernel
theorem dX6_sendSix_254 : decode cX6_sendSix 254 = .ok (.getfield 152, 3) := by decide +kernel
theorem dX6_sendSix_257 : decode cX6_sendSix 257 = .ok (.aload_n 0, 1) := by decide +kernel
theorem dX6_sendSix_258 : decode cX6_sendSix 258 = .ok (.getfield 18, 3) := by decide +kernel
theorem dX6_sendSix_261 : decode cX6_sendSix 261 = .ok (.iload 6, 2) := by decide +kernel
theorem dX6_sendSix_263 : decode cX6_sendSix 263 = .ok (.iload 10, 2) := by decide +kernel
theorem dX6_sendSix_265 : decode cX6_sendSix 265 = .ok (.bipush 40, 2) := by decide +kernel
theorem dX6_sendSix_267 : decode cX6_sendSix 267 = .ok (.iadd, 1) := by decide +kernel
theorem dX6_sendSix_268 : decode cX6_sendSix 268 = .ok (.iload 5, 2) := by decide +kernel
theorem dX6_sendSix_270 : decode cX6_sendSix 270 = .ok (.iadd, 1) := by decide +kernel
theorem dX6_sendSix_271 : decode cX6_sendSix 271 = .ok (.iload 9, 2) := by decide +kernel
theorem dX6_sendSix_273 : decode cX6_sendSix 273 = .ok (.invokevirtual 276, 3) := by decide +kernel
theorem dX6_sendSix_276 : decode cX6_sendSix 276 = .ok (.iload 9, 2) := by decide +kernel
theorem dX6_sendSix_278 : decode cX6_sendSix 278 = .ok (.iload 8, 2) := by decide +kernel
theorem dX6_sendSix_280 : decode cX6_sendSix 280 = .ok (.if_icmp .ne 6, 3) := by decide +kernel
theorem dX6_sendSix_283 : decode cX6_sendSix 283 = .ok (.goto 16, 3) := by decide +kernel
theorem dX6_sendSix_286 : decode cX6_sendSix 286 = .ok (.iload 6, 2) := by decide +kernel
theorem dX6_sendSix_288 : decode cX6_sendSix 288 = .ok (.iload 9, 2) := by decide +kernel
theorem dX6_sendSix_290 : decode cX6_sendSix 290 = .ok (.iadd, 1) := by decide +kernel
theorem dX6_sendSix_291 : decode cX6_sendSix 291 = .ok (.istore 6, 2) := by decide +kernel
theorem dX6_sendSix_293 : decode cX6_sendSix 293 = .ok (.iinc 7 1, 3) := by decide +kernel
theorem dX6_sendSix_296 : decode cX6_sendSix 296 = .ok (.goto (-207), 3) := by decide +kernel
theorem dX6_sendSix_299 : decode cX6_sendSix 299 = .ok (.return_, 1) := by decide +kernel
theorem dX6_putSixHeader_0 : decode cX6_putSixHeader 0 = .ok (.aload_n 1, 1) := by decide +kernel
theorem dX6_putSixHeader_1 : decode cX6_putSixHeader 1 = .ok (.iload_n 2, 1) := by decide +kernel
theorem dX6_putSixHeader_2 : decode cX6_putSixHeader 2 = .ok (.iconst 4, 1) := by decide +kernel
theorem dX6_putSixHeader_3 : decode cX6_putSixHeader 3 = .ok (.ldc2_w 376, 3) := by decide +kernel
theorem dX6_putSixHeader_6 : decode cX6_putSixHeader 6 = .ok (.aload_n 0, 1) := by decide +kernel
theorem dX6_putSixHeader_7 : decode cX6_putSixHeader 7 = .ok (.getfield 79, 3) := by decide +kernel
theorem dX6_putSixHeader_10 : decode cX6_putSixHeader 10 = .ok (.ifCond .eq 13, 3) := by decide +kernel
theorem dX6_putSixHeader_13 : decode cX6_putSixHeader 13 = .ok (.aload_n 3, 1) := by decide +kernel
theorem dX6_putSixHeader_14 : decode cX6_putSixHeader 14 = .ok (.getfield 378, 3) := by decide +kernel
theorem dX6_putSixHeader_17 : decode cX6_putSixHeader 17 = .ok (.bipush 20, 2) := by decide +kernel
theorem dX6_putSixHeader_19 : decode cX6_putSixHeader 19 = .ok (.ishl, 1) := by decide +kernel
theorem dX6_putSixHeader_20 : decode cX6_putSixHeader 20 = .ok (.goto 4, 3) := by decide +kernel
theorem dX6_putSixHeader_23 : decode cX6_putSixHeader 23 = .ok (.iconst 0, 1) := by decide +kernel
theorem dX6_putSixHeader_24 : decode cX6_putSixHeader 24 = .ok (.i2l, 1) := by decide +kernel
theorem dX6_putSixHeader_25 : decode cX6_putSixHeader 25 = .ok (.lor, 1) := by decide +kernel
theorem dX6_putSixHeader_26 : decode cX6_putSixHeader 26 = .ok (.invokevirtual 99, 3) := by decide +kernel
theorem dX6_putSixHeader_29 : decode cX6_putSixHeader 29 = .ok (.aload_n 1, 1) := by decide +kernel
theorem dX6_putSixHeader_30 : decode cX6_putSixHeader 30 = .ok (.iload_n 2, 1) := by decide +kernel
theorem dX6_putSixHeader_31 : decode cX6_putSixHeader 31 = .ok (.iconst 4, 1) := by decide +kernel
theorem dX6_putSixHeader_32 : decode cX6_putSixHeader 32 = .ok (.iadd, 1) := by decide +kernel
theorem dX6_putSixHeader_33 : decode cX6_putSixHeader 33 = .ok (.iconst 2, 1) := by decide +kernel
theorem dX6_putSixHeader_34 : decode cX6_putSixHeader 34 = .ok (.iload 4, 2) := by decide +kernel
theorem dX6_putSixHeader_36 : decode cX6_putSixHeader 36 = .ok (.i2l, 1) := by decide +kernel
theorem dX6_putSixHeader_37 : decode cX6_putSixHeader 37 = .ok (.invokevirtual 99, 3) := by decide +kernel
theorem dX6_putSixHeader_40 : decode cX6_putSixHeader 40 = .ok (.aload_n 1, 1) := by decide +kernel
theorem dX6_putSixHeader_41 : decode cX6_putSixHeader 41 = .ok (.iload_n 2, 1) := by decide +kernel
theorem dX6_putSixHeader_42 : decode cX6_putSixHeader 42 = .ok (.bipush 6, 2) := by decide +kernel
theorem dX6_putSixHeader_44 : decode cX6_putSixHeader 44 = .ok (.iadd, 1) := by decide +kernel
theorem dX6_putSixHeader_45 : decode cX6_putSixHeader 45 = .ok (.iconst 1, 1) := by decide +kernel
theorem dX6_putSixHeader_46 : decode cX6_putSixHeader 46 = .ok (.iload 5, 2) := by decide +kernel
theorem dX6_putSixHeader_48 : decode cX6_putSixHeader 48 = .ok (.i2l, 1) := by decide +kernel
theorem dX6_putSixHeader_49 : decode cX6_putSixHeader 49 = .ok (.invokevirtual 99, 3) := by decide +kernel
theorem dX6_putSixHeader_52 : decode cX6_putSixHeader 52 = .ok (.aload_n 1, 1) := by decide +kernel
theorem dX6_putSixHeader_53 : decode cX6_putSixHeader 53 = .ok (.iload_n 2, 1) := by decide +kernel
theorem dX6_putSixHeader_54 : decode cX6_putSixHeader 54 = .ok (.bipush 7, 2) := by decide +kernel
theorem dX6_putSixHeader_56 : decode cX6_putSixHeader 56 = .ok (.iadd, 1) := by decide +kernel
theorem dX6_putSixHeader_57 : decode cX6_putSixHeader 57 = .ok (.iconst 1, 1) := by decide +kernel
theorem dX6_putSixHeader_58 : decode cX6_putSixHeader 58 = .ok (.iload 6, 2) := by decide +kernel
theorem dX6_putSixHeader_60 : decode cX6_putSixHeader 60 = .ok (.i2l, 1) := by decide +kernel
theorem dX6_putSixHeader_61 : decode cX6_putSixHeader 61 = .ok (.invokevirtual 99, 3) := by decide +kernel
theorem dX6_putSixHeader_64 : decode cX6_putSixHeader 64 = .ok (.aload_n 1, 1) := by decide +kernel
theorem dX6_putSixHeader_65 : decode cX6_putSixHeader 65 = .ok (.iload_n 2, 1) := by decide +kernel
theorem dX6_putSixHeader_66 : decode cX6_putSixHeader 66 = .ok (.bipush 8, 2) := by decide +kernel
theorem dX6_putSixHeader_68 : decode cX6_putSixHeader 68 = .ok (.iadd, 1) := by decide +kernel
theorem dX6_putSixHeader_69 : decode cX6_putSixHeader 69 = .ok (.bipush 8, 2) := by decide +kernel
theorem dX6_putSixHeader_71 : decode cX6_putSixHeader 71 = .ok (.aload_n 0, 1) := by decide +kernel
theorem dX6_putSixHeader_72 : decode cX6_putSixHeader 72 = .ok (.getfield 31, 3) := by decide +kernel
theorem dX6_putSixHeader_75 : decode cX6_putSixHeader 75 = .ok (.aload_n 3, 1) := by decide +kernel
theorem dX6_putSixHeader_76 : decode cX6_putSixHeader 76 = .ok (.getfield 190, 3) := by decide +kernel
theorem dX6_putSixHeader_79 : decode cX6_putSixHeader 79 = .ok (.invokevirtual 179, 3) := by decide +kernel
theorem dX6_putSixHeader_82 : decode cX6_putSixHeader 82 = .ok (.invokevirtual 99, 3) := by decide +kernel
theorem dX6_putSixHeader_85 : decode cX6_putSixHeader 85 = .ok (.aload_n 1, 1) := by decide +kernel
theorem dX6_putSixHeader_86 : decode cX6_putSixHeader 86 = .ok (.iload_n 2, 1) := by decide +kernel
theorem dX6_putSixHeader_87 : decode cX6_putSixHeader 87 = .ok (.bipush 16, 2) := by decide +kernel
theorem dX6_putSixHeader_89 : decode cX6_putSixHeader 89 = .ok (.iadd, 1) := by decide +kernel
theorem dX6_putSixHeader_90 : decode cX6_putSixHeader 90 = .ok (.bipush 8, 2) := by decide +kernel
theorem dX6_putSixHeader_92 : decode cX6_putSixHeader 92 = .ok (.aload_n 0, 1) := by decide +kernel
theorem dX6_putSixHeader_93 : decode cX6_putSixHeader 93 = .ok (.getfield 31, 3) := by decide +kernel
theorem dX6_putSixHeader_96 : decode cX6_putSixHeader 96 = .ok (.aload_n 3, 1) := by decide +kernel
theorem dX6_putSixHeader_97 : decode cX6_putSixHeader 97 = .ok (.getfield 190, 3) := by decide +kernel
theorem dX6_putSixHeader_100 : decode cX6_putSixHeader 100 = .ok (.invokevirtual 175, 3) := by decide +kernel
theorem dX6_putSixHeader_103 : decode cX6_putSixHeader 103 = .ok (.invokevirtual 99, 3) := by decide +kernel
theorem dX6_putSixHeader_106 : decode cX6_putSixHeader 106 = .ok (.aload_n 1, 1) := by decide +kernel
theorem dX6_putSixHeader_107 : decode cX6_putSixHeader 107 = .ok (.iload_n 2, 1) := by decide +kernel
theorem dX6_putSixHeader_108 : decode cX6_putSixHeader 108 = .ok (.bipush 24, 2) := by decide +kernel
theorem dX6_putSixHeader_110 : decode cX6_putSixHeader 110 = .ok (.iadd, 1) := by decide +kernel
theorem dX6_putSixHeader_111 : decode cX6_putSixHeader 111 = .ok (.bipush 8, 2) := by decide +kernel
theorem dX6_putSixHeader_113 : decode cX6_putSixHeader 113 = .ok (.aload_n 0, 1) := by decide +kernel
theorem dX6_putSixHeader_114 : decode cX6_putSixHeader 114 = .ok (.getfield 31, 3) := by decide +kernel
theorem dX6_putSixHeader_117 : decode cX6_putSixHeader 117 = .ok (.aload_n 3, 1) := by decide +kernel
theorem dX6_putSixHeader_118 : decode cX6_putSixHeader 118 = .ok (.getfield 193, 3) := by decide +kernel
theorem dX6_putSixHeader_121 : decode cX6_putSixHeader 121 = .ok (.invokevirtual 179, 3) := by decide +kernel
theorem dX6_putSixHeader_124 : decode cX6_putSixHeader 124 = .ok (.invokevirtual 99, 3) := by decide +kernel
theorem dX6_putSixHeader_127 : decode cX6_putSixHeader 127 = .ok (.aload_n 1, 1) := by decide +kernel
theorem dX6_putSixHeader_128 : decode cX6_putSixHeader 128 = .ok (.iload_n 2, 1) := by decide +kernel
theorem dX6_putSixHeader_129 : decode cX6_putSixHeader 129 = .ok (.bipush 32, 2) := by decide +kernel
theorem dX6_putSixHeader_131 : decode cX6_putSixHeader 131 = .ok (.iadd, 1) := by decide +kernel
theorem dX6_putSixHeader_132 : decode cX6_putSixHeader 132 = .ok (.bipush 8, 2) := by decide +kernel
theorem dX6_putSixHeader_134 : decode cX6_putSixHeader 134 = .ok (.aload_n 0, 1) := by decide +kernel
theorem dX6_putSixHeader_135 : decode cX6_putSixHeader 135 = .ok (.getfield 31, 3) := by decide +kernel
theorem dX6_putSixHeader_138 : decode cX6_putSixHeader 138 = .ok (.aload_n 3, 1) := by decide +kernel
theorem dX6_putSixHeader_139 : decode cX6_putSixHeader 139 = .ok (.getfield 193, 3) := by decide +kernel
theorem dX6_putSixHeader_142 : decode cX6_putSixHeader 142 = .ok (.invokevirtual 175, 3) := by decide +kernel
theorem dX6_putSixHeader_145 : decode cX6_putSixHeader 145 = .ok (.invokevirtual 99, 3) := by decide +kernel
theorem dX6_putSixHeader_148 : decode cX6_putSixHeader 148 = .ok (.return_, 1) := by decide +kernel
theorem dX6_putFragmentHeader_0 : decode cX6_putFragmentHeader 0 = .ok (.aload_n 0, 1) := by decide +kernel
theorem dX6_putFragmentHeader_1 : decode cX6_putFragmentHeader 1 = .ok (.iload_n 1, 1) := by decide +kernel
theorem dX6_putFragmentHeader_2 : decode cX6_putFragmentHeader 2 = .ok (.iconst 2, 1) := by decide +kernel
theorem dX6_putFragmentHeader_3 : decode cX6_putFragmentHeader 3 = .ok (.iload_n 2, 1) := by decide +kernel
theorem dX6_putFragmentHeader_4 : decode cX6_putFragmentHeader 4 = .ok (.bipush 8, 2) := by decide +kernel
theorem dX6_putFragmentHeader_6 : decode cX6_putFragmentHeader 6 = .ok (.ishl, 1) := by decide +kernel
theorem dX6_putFragmentHeader_7 : decode cX6_putFragmentHeader 7 = .ok (.i2l, 1) := by decide +kernel
theorem dX6_putFragmentHeader_8 : decode cX6_putFragmentHeader 8 = .ok (.invokevirtual 99, 3) := by decide +kernel
theorem dX6_putFragmentHeader_11 : decode cX6_putFragmentHeader 11 = .ok (.aload_n 0, 1) := by decide +kernel
theorem dX6_putFragmentHeader_12 : decode cX6_putFragmentHeader 12 = .ok (.iload_n 1, 1) := by decide +kernel
theorem dX6_putFragmentHeader_13 : decode cX6_putFragmentHeader 13 = .ok (.iconst 2, 1) := by decide +kernel
theorem dX6_putFragmentHeader_14 : decode cX6_putFragmentHeader 14 = .ok (.iadd, 1) := by decide +kernel
theorem dX6_putFragmentHeader_15 : decode cX6_putFragmentHeader 15 = .ok (.iconst 2, 1) := by decide +kernel
theorem dX6_putFragmentHeader_16 : decode cX6_putFragmentHeader 16 = .ok (.iload_n 3, 1) := by decide +kernel
theorem dX6_putFragmentHeader_17 : decode cX6_putFragmentHeader 17 = .ok (.iconst 3, 1) := by decide +kernel
theorem dX6_putFragmentHeader_18 : decode cX6_putFragmentHeader 18 = .ok (.ishl, 1) := by decide +kernel
theorem dX6_putFragmentHeader_19 : decode cX6_putFragmentHeader 19 = .ok (.iload 4, 2) := by decide +kernel
theorem dX6_putFragmentHeader_21 : decode cX6_putFragmentHeader 21 = .ok (.ifCond .eq 7, 3) := by decide +kernel
theorem dX6_putFragmentHeader_24 : decode cX6_putFragmentHeader 24 = .ok (.iconst 1, 1) := by decide +kernel
theorem dX6_putFragmentHeader_25 : decode cX6_putFragmentHeader 25 = .ok (.goto 4, 3) := by decide +kernel
theorem dX6_putFragmentHeader_28 : decode cX6_putFragmentHeader 28 = .ok (.iconst 0, 1) := by decide +kernel
theorem dX6_putFragmentHeader_29 : decode cX6_putFragmentHeader 29 = .ok (.ior, 1) := by decide +kernel
theorem dX6_putFragmentHeader_30 : decode cX6_putFragmentHeader 30 = .ok (.i2l, 1) := by decide +kernel
theorem dX6_putFragmentHeader_31 : decode cX6_putFragmentHeader 31 = .ok (.invokevirtual 99, 3) := by decide +kernel
theorem dX6_putFragmentHeader_34 : decode cX6_putFragmentHeader 34 = .ok (.aload_n 0, 1) := by decide +kernel
theorem dX6_putFragmentHeader_35 : decode cX6_putFragmentHeader 35 = .ok (.iload_n 1, 1) := by decide +kernel
theorem dX6_putFragmentHeader_36 : decode cX6_putFragmentHeader 36 = .ok (.iconst 4, 1) := by decide +kernel
theorem dX6_putFragmentHeader_37 : decode cX6_putFragmentHeader 37 = .ok (.iadd, 1) := by decide +kernel
theorem dX6_putFragmentHeader_38 : decode cX6_putFragmentHeader 38 = .ok (.iconst 4, 1) := by decide +kernel
theorem dX6_putFragmentHeader_39 : decode cX6_putFragmentHeader 39 = .ok (.iload 5, 2) := by decide +kernel
theorem dX6_putFragmentHeader_41 : decode cX6_putFragmentHeader 41 = .ok (.i2l, 1) := by decide +kernel
theorem dX6_putFragmentHeader_42 : decode cX6_putFragmentHeader 42 = .ok (.invokevirtual 99, 3) := by decide +kernel
theorem dX6_putFragmentHeader_45 : decode cX6_putFragmentHeader 45 = .ok (.return_, 1) := by decide +kernel
theorem dX6_answerFour_0 : decode cX6_answerFour 0 = .ok (.aload_n 1, 1) := by decide +kernel
theorem dX6_answerFour_1 : decode cX6_answerFour 1 = .ok (.getfield 275, 3) := by decide +kernel
theorem dX6_answerFour_4 : decode cX6_answerFour 4 = .ok (.ifCond .le 24, 3) := by decide +kernel
theorem dX6_answerFour_7 : decode cX6_answerFour 7 = .ok (.aload_n 0, 1) := by decide +kernel
theorem dX6_answerFour_8 : decode cX6_answerFour 8 = .ok (.getfield 14, 3) := by decide +kernel
theorem dX6_answerFour_11 : decode cX6_answerFour 11 = .ok (.aload_n 1, 1) := by decide +kernel
theorem dX6_answerFour_12 : decode cX6_answerFour 12 = .ok (.getfield 219, 3) := by decide +kernel
theorem dX6_answerFour_15 : decode cX6_answerFour 15 = .ok (.invokevirtual 158, 3) := by decide +kernel
theorem dX6_answerFour_18 : decode cX6_answerFour 18 = .ok (.invokestatic 257, 3) := by decide +kernel
theorem dX6_answerFour_21 : decode cX6_answerFour 21 = .ok (.ifCond .eq 7, 3) := by decide +kernel
theorem dX6_answerFour_24 : decode cX6_answerFour 24 = .ok (.iconst 1, 1) := by decide +kernel
theorem dX6_answerFour_25 : decode cX6_answerFour 25 = .ok (.goto 4, 3) := by decide +kernel
theorem dX6_answerFour_28 : decode cX6_answerFour 28 = .ok (.iconst 0, 1) := by decide +kernel
theorem dX6_answerFour_29 : decode cX6_answerFour 29 = .ok (.istore 4, 2) := by decide +kernel
theorem dX6_answerFour_31 : decode cX6_answerFour 31 = .ok (.aload_n 1, 1) := by decide +kernel
theorem dX6_answerFour_32 : decode cX6_answerFour 32 = .ok (.getfield 284, 3) := by decide +kernel
theorem dX6_answerFour_35 : decode cX6_answerFour 35 = .ok (.ifCond .ne 16, 3) := by decide +kernel
theorem dX6_answerFour_38 : decode cX6_answerFour 38 = .ok (.aload_n 1, 1) := by decide +kernel
theorem dX6_answerFour_39 : decode cX6_answerFour 39 = .ok (.getfield 216, 3) := by decide +kernel
theorem dX6_answerFour_42 : decode cX6_answerFour 42 = .ok (.iconst 1, 1) := by decide +kernel
theorem dX6_answerFour_43 : decode cX6_answerFour 43 = .ok (.if_icmp .ne 11, 3) := by decide +kernel
theorem dX6_answerFour_46 : decode cX6_answerFour 46 = .ok (.iload 4, 2) := by decide +kernel
theorem dX6_answerFour_48 : decode cX6_answerFour 48 = .ok (.ifCond .ne 6, 3) := by decide +kernel
theorem dX6_answerFour_51 : decode cX6_answerFour 51 = .ok (.bipush 9, 2) := by decide +kernel
theorem dX6_answerFour_53 : decode cX6_answerFour 53 = .ok (.ireturn, 1) := by decide +kernel
theorem dX6_answerFour_54 : decode cX6_answerFour 54 = .ok (.aload_n 1, 1) := by decide +kernel
theorem dX6_answerFour_55 : decode cX6_answerFour 55 = .ok (.getfield 381, 3) := by decide +kernel
theorem dX6_answerFour_58 : decode cX6_answerFour 58 = .ok (.bipush 8, 2) := by decide +kernel
theorem dX6_answerFour_60 : decode cX6_answerFour 60 = .ok (.aload_n 1, 1) := by decide +kernel
theorem dX6_answerFour_61 : decode cX6_answerFour 61 = .ok (.getfield 275, 3) := by decide +kernel
theorem dX6_answerFour_64 : decode cX6_answerFour 64 = .ok (.invokestatic 329, 3) := by decide +kernel
theorem dX6_answerFour_67 : decode cX6_answerFour 67 = .ok (.iadd, 1) := by decide +kernel
theorem dX6_answerFour_68 : decode cX6_answerFour 68 = .ok (.istore 5, 2) := by decide +kernel
theorem dX6_answerFour_70 : decode cX6_answerFour 70 = .ok (.bipush 28, 2) := by decide +kernel
theorem dX6_answerFour_72 : decode cX6_answerFour 72 = .ok (.iload 5, 2) := by decide +kernel
theorem dX6_answerFour_74 : decode cX6_answerFour 74 = .ok (.iadd, 1) := by decide +kernel
theorem dX6_answerFour_75 : decode cX6_answerFour 75 = .ok (.istore 6, 2) := by decide +kernel
theorem dX6_answerFour_77 : decode cX6_answerFour 77 = .ok (.aload_n 0, 1) := by decide +kernel
theorem dX6_answerFour_78 : decode cX6_answerFour 78 = .ok (.getfield 24, 3) := by decide +kernel
theorem dX6_answerFour_81 : decode cX6_answerFour 81 = .ok (.getfield 152, 3) := by decide +kernel
theorem dX6_answerFour_84 : decode cX6_answerFour 84 = .ok (.astore 7, 2) := by decide +kernel
theorem dX6_answerFour_86 : decode cX6_answerFour 86 = .ok (.aload_n 0, 1) := by decide +kernel
theorem dX6_answerFour_87 : decode cX6_answerFour 87 = .ok (.getfield 24, 3) := by decide +kernel
theorem dX6_answerFour_90 : decode cX6_answerFour 90 = .ok (.iload 6, 2) := by decide +kernel
theorem dX6_answerFour_92 : decode cX6_answerFour 92 = .ok (.invokevirtual 373, 3) := by decide +kernel
theorem dX6_answerFour_95 : decode cX6_answerFour 95 = .ok (.istore 8, 2) := by decide +kernel
theorem dX6_answerFour_97 : decode cX6_answerFour 97 = .ok (.aload 7, 2) := by decide +kernel
theorem dX6_answerFour_99 : decode cX6_answerFour 99 = .ok (.iload 8, 2) := by decide +kernel
theorem dX6_answerFour_101 : decode cX6_answerFour 101 = .ok (.iconst 4, 1) := by decide +kernel
theorem dX6_answerFour_102 : decode cX6_answerFour 102 = .ok (.ldc_w 384, 3) := by decide +kernel
theorem dX6_answerFour_105 : decode cX6_answerFour 105 = .ok (.iload 6, 2) := by decide +kernel
theorem dX6_answerFour_107 : decode cX6_answerFour 107 = .ok (.ior, 1) := by decide +kernel
theorem dX6_answerFour_108 : decode cX6_answerFour 108 = .ok (.i2l, 1) := by decide +kernel
theorem dX6_answerFour_109 : decode cX6_answerFour 109 = .ok (.invokevirtual 99, 3) := by decide +kernel
theorem dX6_answerFour_112 : decode cX6_answerFour 112 = .ok (.aload 7, 2) := by decide +kernel
theorem dX6_answerFour_114 : decode cX6_answerFour 114 = .ok (.iload 8, 2) := by decide +kernel
theorem dX6_answerFour_116 : decode cX6_answerFour 116 = .ok (.iconst 4, 1) := by decide +kernel
theorem dX6_answerFour_117 : decode cX6_answerFour 117 = .ok (.iadd, 1) := by decide +kernel
theorem dX6_answerFour_118 : decode cX6_answerFour 118 = .ok (.iconst 4, 1) := by decide +kernel
theorem dX6_answerFour_119 : decode cX6_answerFour 119 = .ok (.lconst 0, 1) := by decide +kernel
theorem dX6_answerFour_120 : decode cX6_answerFour 120 = .ok (.invokevirtual 99, 3) := by decide +kernel
theorem dX6_answerFour_123 : decode cX6_answerFour 123 = .ok (.aload 7, 2) := by decide +kernel
theorem dX6_answerFour_125 : decode cX6_answerFour 125 = .ok (.iload 8, 2) := by decide +kernel
theorem dX6_answerFour_127 : decode cX6_answerFour 127 = .ok (.bipush 8, 2) := by decide +kernel
theorem dX6_answerFour_129 : decode cX6_answerFour 129 = .ok (.iadd, 1) := by decide +kernel
theorem dX6_answerFour_130 : decode cX6_answerFour 130 = .ok (.iconst 4, 1) := by decide +kernel
theorem dX6_answerFour_131 : decode cX6_answerFour 131 = .ok (.ldc2_w 385, 3) := by decide +kernel
theorem dX6_answerFour_134 : decode cX6_answerFour 134 = .ok (.invokevirtual 99, 3) := by decide +kernel
theorem dX6_answerFour_137 : decode cX6_answerFour 137 = .ok (.aload 7, 2) := by decide +kernel
theorem dX6_answerFour_139 : decode cX6_answerFour 139 = .ok (.iload 8, 2) := by decide +kernel
theorem dX6_answerFour_141 : decode cX6_answerFour 141 = .ok (.bipush 12, 2) := by decide +kernel
theorem dX6_answerFour_143 : decode cX6_answerFour 143 = .ok (.iadd, 1) := by decide +kernel
theorem dX6_answerFour_144 : decode cX6_answerFour 144 = .ok (.iconst 4, 1) := by decide +kernel
theorem dX6_answerFour_145 : decode cX6_answerFour 145 = .ok (.aload_n 0, 1) := by decide +kernel
theorem dX6_answerFour_146 : decode cX6_answerFour 146 = .ok (.getfield 60, 3) := by decide +kernel
theorem dX6_answerFour_149 : decode cX6_answerFour 149 = .ok (.i2l, 1) := by decide +kernel
theorem dX6_answerFour_150 : decode cX6_answerFour 150 = .ok (.invokevirtual 99, 3) := by decide +kernel
theorem dX6_answerFour_153 : decode cX6_answerFour 153 = .ok (.aload 7, 2) := by decide +kernel
theorem dX6_answerFour_155 : decode cX6_answerFour 155 = .ok (.iload 8, 2) := by decide +kernel
theorem dX6_answerFour_157 : decode cX6_answerFour 157 = .ok (.bipush 16, 2) := by decide +kernel
theorem dX6_answerFour_159 : decode cX6_answerFour 159 = .ok (.iadd, 1) := by decide +kernel
theorem dX6_answerFour_160 : decode cX6_answerFour 160 = .ok (.iconst 4, 1) := by decide +kernel
theorem dX6_answerFour_161 : decode cX6_answerFour 161 = .ok (.aload_n 1, 1) := by decide +kernel
theorem dX6_answerFour_162 : decode cX6_answerFour 162 = .ok (.getfield 190, 3) := by decide +kernel
theorem dX6_answerFour_165 : decode cX6_answerFour 165 = .ok (.i2l, 1) := by decide +kernel
theorem dX6_answerFour_166 : decode cX6_answerFour 166 = .ok (.invokevirtual 99, 3) := by decide +kernel
theorem dX6_answerFour_169 : decode cX6_answerFour 169 = .ok (.aload 7, 2) := by decide +kernel
theorem dX6_answerFour_171 : decode cX6_answerFour 171 = .ok (.iload 8, 2) := by decide +kernel
theorem dX6_answerFour_173 : decode cX6_answerFour 173 = .ok (.bipush 10, 2) := by decide +kernel
theorem dX6_answerFour_175 : decode cX6_answerFour 175 = .ok (.iadd, 1) := by decide +kernel
theorem dX6_answerFour_176 : decode cX6_answerFour 176 = .ok (.iconst 2, 1) := by decide +kernel
theorem dX6_answerFour_177 : decode cX6_answerFour 177 = .ok (.aload 7, 2) := by decide +kernel
theorem dX6_answerFour_179 : decode cX6_answerFour 179 = .ok (.iload 8, 2) := by decide +kernel
theorem dX6_answerFour_181 : decode cX6_answerFour 181 = .ok (.iload 8, 2) := by decide +kernel
theorem dX6_answerFour_183 : decode cX6_answerFour 183 = .ok (.bipush 20, 2) := by decide +kernel
theorem dX6_answerFour_185 : decode cX6_answerFour 185 = .ok (.iadd, 1) := by decide +kernel
theorem dX6_answerFour_186 : decode cX6_answerFour 186 = .ok (.invokevirtual 163, 3) := by decide +kernel
theorem dX6_answerFour_189 : decode cX6_answerFour 189 = .ok (.invokestatic 167, 3) := by decide +kernel
theorem dX6_answerFour_192 : decode cX6_answerFour 192 = .ok (.i2l, 1) := by decide +kernel
theorem dX6_answerFour_193 : decode cX6_answerFour 193 = .ok (.invokevirtual 99, 3) := by decide +kernel
theorem dX6_answerFour_196 : decode cX6_answerFour 196 = .ok (.iload 8, 2) := by decide +kernel
theorem dX6_answerFour_198 : decode cX6_answerFour 198 = .ok (.bipush 20, 2) := by decide +kernel
theorem dX6_answerFour_200 : decode cX6_answerFour 200 = .ok (.iadd, 1) := by decide +kernel
theorem dX6_answerFour_201 : decode cX6_answerFour 201 = .ok (.istore 9, 2) := by decide +kernel
theorem dX6_answerFour_203 : decode cX6_answerFour 203 = .ok (.aload 7, 2) := by decide +kernel
theorem dX6_answerFour_205 : decode cX6_answerFour 205 = .ok (.iload 9, 2) := by decide +kernel
theorem dX6_answerFour_207 : decode cX6_answerFour 207 = .ok (.iconst 4, 1) := by decide +kernel
theorem dX6_answerFour_208 : decode cX6_answerFour 208 = .ok (.iload_n 2, 1) := by decide +kernel
theorem dX6_answerFour_209 : decode cX6_answerFour 209 = .ok (.i2l, 1) := by decide +kernel
theorem dX6_answerFour_210 : decode cX6_answerFour 210 = .ok (.bipush 16, 2) := by decide +kernel
theorem dX6_answerFour_212 : decode cX6_answerFour 212 = .ok (.lshl, 1) := by decide +kernel
theorem dX6_answerFour_213 : decode cX6_answerFour 213 = .ok (.invokevirtual 99, 3) := by decide +kernel
theorem dX6_answerFour_216 : decode cX6_answerFour 216 = .ok (.aload 7, 2) := by decide +kernel
theorem dX6_answerFour_218 : decode cX6_answerFour 218 = .ok (.iload 9, 2) := by decide +kernel
theorem dX6_answerFour_220 : decode cX6_answerFour 220 = .ok (.iconst 4, 1) := by decide +kernel
theorem dX6_answerFour_221 : decode cX6_answerFour 221 = .ok (.iadd, 1) := by decide +kernel
theorem dX6_answerFour_222 : decode cX6_answerFour 222 = .ok (.iconst 4, 1) := by decide +kernel
theorem dX6_answerFour_223 : decode cX6_answerFour 223 = .ok (.iload_n 3, 1) := by decide +kernel
theorem dX6_answerFour_224 : decode cX6_answerFour 224 = .ok (.i2l, 1) := by decide +kernel
theorem dX6_answerFour_225 : decode cX6_answerFour 225 = .ok (.invokevirtual 99, 3) := by decide +kernel
theorem dX6_answerFour_228 : decode cX6_answerFour 228 = .ok (.aload 7, 2) := by decide +kernel
theorem dX6_answerFour_230 : decode cX6_answerFour 230 = .ok (.aload_n 0, 1) := by decide +kernel
theorem dX6_answerFour_231 : decode cX6_answerFour 231 = .ok (.getfield 14, 3) := by decide +kernel
theorem dX6_answerFour_234 : decode cX6_answerFour 234 = .ok (.iconst 0, 1) := by decide +kernel
theorem dX6_answerFour_235 : decode cX6_answerFour 235 = .ok (.iload 9, 2) := by decide +kernel
theorem dX6_answerFour_237 : decode cX6_answerFour 237 = .ok (.bipush 8, 2) := by decide +kernel
theorem dX6_answerFour_239 : decode cX6_answerFour 239 = .ok (.iadd, 1) := by decide +kernel
theorem dX6_answerFour_240 : decode cX6_answerFour 240 = .ok (.iload 5, 2) := by decide +kernel
theorem dX6_answerFour_242 : decode cX6_answerFour 242 = .ok (.invokevirtual 276, 3) := by decide +kernel
theorem dX6_answerFour_245 : decode cX6_answerFour 245 = .ok (.aload 7, 2) := by decide +kernel
theorem dX6_answerFour_247 : decode cX6_answerFour 247 = .ok (.iload 9, 2) := by decide +kernel
theorem dX6_answerFour_249 : decode cX6_answerFour 249 = .ok (.iconst 2, 1) := by decide +kernel
theorem dX6_answerFour_250 : decode cX6_answerFour 250 = .ok (.iadd, 1) := by decide +kernel
theorem dX6_answerFour_251 : decode cX6_answerFour 251 = .ok (.iconst 2, 1) := by decide +kernel
theorem dX6_answerFour_252 : decode cX6_answerFour 252 = .ok (.aload 7, 2) := by decide +kernel
theorem dX6_answerFour_254 : decode cX6_answerFour 254 = .ok (.iload 9, 2) := by decide +kernel
theorem dX6_answerFour_256 : decode cX6_answerFour 256 = .ok (.iload 8, 2) := by decide +kernel
theorem dX6_answerFour_258 : decode cX6_answerFour 258 = .ok (.iload 6, 2) := by decide +kernel
theorem dX6_answerFour_260 : decode cX6_answerFour 260 = .ok (.iadd, 1) := by decide +kernel
theorem dX6_answerFour_261 : decode cX6_answerFour 261 = .ok (.invokevirtual 163, 3) := by decide +kernel
theorem dX6_answerFour_264 : decode cX6_answerFour 264 = .ok (.invokestatic 167, 3) := by decide +kernel
theorem dX6_answerFour_267 : decode cX6_answerFour 267 = .ok (.i2l, 1) := by decide +kernel
theorem dX6_answerFour_268 : decode cX6_answerFour 268 = .ok (.invokevirtual 99, 3) := by decide +kernel
theorem dX6_answerFour_271 : decode cX6_answerFour 271 = .ok (.bipush 10, 2) := by decide +kernel
theorem dX6_answerFour_273 : decode cX6_answerFour 273 = .ok (.ireturn, 1) := by decide +kernel
theorem dX6_verdictOnSix_0 : decode cX6_verdictOnSix 0 = .ok (.aload_n 1, 1) := by decide +kernel
theorem dX6_verdictOnSix_1 : decode cX6_verdictOnSix 1 = .ok (.aload_n 0, 1) := by decide +kernel
theorem dX6_verdictOnSix_2 : decode cX6_verdictOnSix 2 = .ok (.getfield 14, 3) := by decide +kernel
theorem dX6_verdictOnSix_5 : decode cX6_verdictOnSix 5 = .ok (.invokevirtual 387, 3) := by decide +kernel
theorem dX6_verdictOnSix_8 : decode cX6_verdictOnSix 8 = .ok (.ifCond .ne 5, 3) := by decide +kernel
theorem dX6_verdictOnSix_11 : decode cX6_verdictOnSix 11 = .ok (.iconst 1, 1) := by decide +kernel
theorem dX6_verdictOnSix_12 : decode cX6_verdictOnSix 12 = .ok (.ireturn, 1) := by decide +kernel
theorem dX6_verdictOnSix_13 : decode cX6_verdictOnSix 13 = .ok (.aload_n 0, 1) := by decide +kernel
theorem dX6_verdictOnSix_14 : decode cX6_verdictOnSix 14 = .ok (.getfield 31, 3) := by decide +kernel
theorem dX6_verdictOnSix_17 : decode cX6_verdictOnSix 17 = .ok (.aload_n 0, 1) := by decide +kernel
theorem dX6_verdictOnSix_18 : decode cX6_verdictOnSix 18 = .ok (.getfield 14, 3) := by decide +kernel
theorem dX6_verdictOnSix_21 : decode cX6_verdictOnSix 21 = .ok (.bipush 8, 2) := by decide +kernel
theorem dX6_verdictOnSix_23 : decode cX6_verdictOnSix 23 = .ok (.bipush 8, 2) := by decide +kernel
theorem dX6_verdictOnSix_25 : decode cX6_verdictOnSix 25 = .ok (.invokevirtual 388, 3) := by decide +kernel
theorem dX6_verdictOnSix_28 : decode cX6_verdictOnSix 28 = .ok (.aload_n 0, 1) := by decide +kernel
theorem dX6_verdictOnSix_29 : decode cX6_verdictOnSix 29 = .ok (.getfield 14, 3) := by decide +kernel
theorem dX6_verdictOnSix_32 : decode cX6_verdictOnSix 32 = .ok (.bipush 16, 2) := by decide +kernel
theorem dX6_verdictOnSix_34 : decode cX6_verdictOnSix 34 = .ok (.bipush 8, 2) := by decide +kernel
theorem dX6_verdictOnSix_36 : decode cX6_verdictOnSix 36 = .ok (.invokevirtual 388, 3) := by decide +kernel
theorem dX6_verdictOnSix_39 : decode cX6_verdictOnSix 39 = .ok (.invokevirtual 182, 3) := by decide +kernel
theorem dX6_verdictOnSix_42 : decode cX6_verdictOnSix 42 = .ok (.lstore_n 2, 1) := by decide +kernel
theorem dX6_verdictOnSix_43 : decode cX6_verdictOnSix 43 = .ok (.lload_n 2, 1) := by decide +kernel
theorem dX6_verdictOnSix_44 : decode cX6_verdictOnSix 44 = .ok (.ldc2_w 390, 3) := by decide +kernel
theorem dX6_verdictOnSix_47 : decode cX6_verdictOnSix 47 = .ok (.lcmp, 1) := by decide +kernel
theorem dX6_verdictOnSix_48 : decode cX6_verdictOnSix 48 = .ok (.ifCond .ne 5, 3) := by decide +kernel
theorem dX6_verdictOnSix_51 : decode cX6_verdictOnSix 51 = .ok (.iconst 2, 1) := by decide +kernel
theorem dX6_verdictOnSix_52 : decode cX6_verdictOnSix 52 = .ok (.ireturn, 1) := by decide +kernel
theorem dX6_verdictOnSix_53 : decode cX6_verdictOnSix 53 = .ok (.aload_n 0, 1) := by decide +kernel
theorem dX6_verdictOnSix_54 : decode cX6_verdictOnSix 54 = .ok (.getfield 31, 3) := by decide +kernel
theorem dX6_verdictOnSix_57 : decode cX6_verdictOnSix 57 = .ok (.aload_n 0, 1) := by decide +kernel
theorem dX6_verdictOnSix_58 : decode cX6_verdictOnSix 58 = .ok (.getfield 14, 3) := by decide +kernel
theorem dX6_verdictOnSix_61 : decode cX6_verdictOnSix 61 = .ok (.bipush 24, 2) := by decide +kernel
theorem dX6_verdictOnSix_63 : decode cX6_verdictOnSix 63 = .ok (.bipush 8, 2) := by decide +kernel
theorem dX6_verdictOnSix_65 : decode cX6_verdictOnSix 65 = .ok (.invokevirtual 388, 3) := by decide +kernel
theorem dX6_verdictOnSix_68 : decode cX6_verdictOnSix 68 = .ok (.aload_n 0, 1) := by decide +kernel
theorem dX6_verdictOnSix_69 : decode cX6_verdictOnSix 69 = .ok (.getfield 14, 3) := by decide +kernel
theorem dX6_verdictOnSix_72 : decode cX6_verdictOnSix 72 = .ok (.bipush 32, 2) := by decide +kernel
theorem dX6_verdictOnSix_74 : decode cX6_verdictOnSix 74 = .ok (.bipush 8, 2) := by decide +kernel
theorem dX6_verdictOnSix_76 : decode cX6_verdictOnSix 76 = .ok (.invokevirtual 388, 3) := by decide +kernel
theorem dX6_verdictOnSix_79 : decode cX6_verdictOnSix 79 = .ok (.invokevirtual 182, 3) := by decide +kernel
theorem dX6_verdictOnSix_82 : decode cX6_verdictOnSix 82 = .ok (.lstore 4, 2) := by decide +kernel
theorem dX6_verdictOnSix_84 : decode cX6_verdictOnSix 84 = .ok (.lload 4, 2) := by decide +kernel
theorem dX6_verdictOnSix_86 : decode cX6_verdictOnSix 86 = .ok (.ldc2_w 390, 3) := by decide +kernel
theorem dX6_verdictOnSix_89 : decode cX6_verdictOnSix 89 = .ok (.lcmp, 1) := by decide +kernel
theorem dX6_verdictOnSix_90 : decode cX6_verdictOnSix 90 = .ok (.ifCond .ne 5, 3) := by decide +kernel
theorem dX6_verdictOnSix_93 : decode cX6_verdictOnSix 93 = .ok (.iconst 3, 1) := by decide +kernel
theorem dX6_verdictOnSix_94 : decode cX6_verdictOnSix 94 = .ok (.ireturn, 1) := by decide +kernel
theorem dX6_verdictOnSix_95 : decode cX6_verdictOnSix 95 = .ok (.aload_n 1, 1) := by decide +kernel
theorem dX6_verdictOnSix_96 : decode cX6_verdictOnSix 96 = .ok (.lload_n 2, 1) := by decide +kernel
theorem dX6_verdictOnSix_97 : decode cX6_verdictOnSix 97 = .ok (.lload 4, 2) := by decide +kernel
theorem dX6_verdictOnSix_99 : decode cX6_verdictOnSix 99 = .ok (.invokevirtual 392, 3) := by decide +kernel
theorem dX6_verdictOnSix_102 : decode cX6_verdictOnSix 102 = .ok (.aload_n 1, 1) := by decide +kernel
theorem dX6_verdictOnSix_103 : decode cX6_verdictOnSix 103 = .ok (.getfield 396, 3) := by decide +kernel
theorem dX6_verdictOnSix_106 : decode cX6_verdictOnSix 106 = .ok (.iconst (-1), 1) := by decide +kernel
theorem dX6_verdictOnSix_107 : decode cX6_verdictOnSix 107 = .ok (.if_icmp .eq 16, 3) := by decide +kernel
theorem dX6_verdictOnSix_110 : decode cX6_verdictOnSix 110 = .ok (.aload_n 0, 1) := by decide +kernel
theorem dX6_verdictOnSix_111 : decode cX6_verdictOnSix 111 = .ok (.aload_n 1, 1) := by decide +kernel
theorem dX6_verdictOnSix_112 : decode cX6_verdictOnSix 112 = .ok (.sipush 1024, 3) := by decide +kernel
theorem dX6_verdictOnSix_115 : decode cX6_verdictOnSix 115 = .ok (.aload_n 1, 1) := by decide +kernel
theorem dX6_verdictOnSix_116 : decode cX6_verdictOnSix 116 = .ok (.getfield 396, 3) := by decide +kernel
theorem dX6_verdictOnSix_119 : decode cX6_verdictOnSix 119 = .ok (.invokevirtual 399, 3) := by decide +kernel
theorem dX6_verdictOnSix_122 : decode cX6_verdictOnSix 122 = .ok (.ireturn, 1) := by decide +kernel
theorem dX6_verdictOnSix_123 : decode cX6_verdictOnSix 123 = .ok (.aload_n 1, 1) := by decide +kernel
theorem dX6_verdictOnSix_124 : decode cX6_verdictOnSix 124 = .ok (.getfield 403, 3) := by decide +kernel
theorem dX6_verdictOnSix_127 : decode cX6_verdictOnSix 127 = .ok (.iconst 1, 1) := by decide +kernel
theorem dX6_verdictOnSix_128 : decode cX6_verdictOnSix 128 = .ok (.if_icmp .gt 13, 3) := by decide +kernel
theorem dX6_verdictOnSix_131 : decode cX6_verdictOnSix 131 = .ok (.aload_n 0, 1) := by decide +kernel
theorem dX6_verdictOnSix_132 : decode cX6_verdictOnSix 132 = .ok (.aload_n 1, 1) := by decide +kernel
theorem dX6_verdictOnSix_133 : decode cX6_verdictOnSix 133 = .ok (.sipush 768, 3) := by decide +kernel
theorem dX6_verdictOnSix_136 : decode cX6_verdictOnSix 136 = .ok (.iconst 0, 1) := by decide +kernel
theorem dX6_verdictOnSix_137 : decode cX6_verdictOnSix 137 = .ok (.invokevirtual 399, 3) := by decide +kernel
theorem dX6_verdictOnSix_140 : decode cX6_verdictOnSix 140 = .ok (.ireturn, 1) := by decide +kernel
theorem dX6_verdictOnSix_141 : decode cX6_verdictOnSix 141 = .ok (.aload_n 0, 1) := by decide +kernel
theorem dX6_verdictOnSix_142 : decode cX6_verdictOnSix 142 = .ok (.aload_n 1, 1) := by decide +kernel
theorem dX6_verdictOnSix_143 : decode cX6_verdictOnSix 143 = .ok (.invokevirtual 404, 3) := by decide +kernel
theorem dX6_verdictOnSix_146 : decode cX6_verdictOnSix 146 = .ok (.istore 6, 2) := by decide +kernel
theorem dX6_verdictOnSix_148 : decode cX6_verdictOnSix 148 = .ok (.iload 6, 2) := by decide +kernel
theorem dX6_verdictOnSix_150 : decode cX6_verdictOnSix 150 = .ok (.ifCond .eq 6, 3) := by decide +kernel
theorem dX6_verdictOnSix_153 : decode cX6_verdictOnSix 153 = .ok (.iload 6, 2) := by decide +kernel
theorem dX6_verdictOnSix_155 : decode cX6_verdictOnSix 155 = .ok (.ireturn, 1) := by decide +kernel
theorem dX6_verdictOnSix_156 : decode cX6_verdictOnSix 156 = .ok (.aload_n 1, 1) := by decide +kernel
theorem dX6_verdictOnSix_157 : decode cX6_verdictOnSix 157 = .ok (.getfield 407, 3) := by decide +kernel
theorem dX6_verdictOnSix_160 : decode cX6_verdictOnSix 160 = .ok (.bipush 58, 2) := by decide +kernel
theorem dX6_verdictOnSix_162 : decode cX6_verdictOnSix 162 = .ok (.if_icmp .ne 34, 3) := by decide +kernel
theorem dX6_verdictOnSix_165 : decode cX6_verdictOnSix 165 = .ok (.aload_n 0, 1) := by decide +kernel
theorem dX6_verdictOnSix_166 : decode cX6_verdictOnSix 166 = .ok (.getfield 14, 3) := by decide +kernel
theorem dX6_verdictOnSix_169 : decode cX6_verdictOnSix 169 = .ok (.aload_n 1, 1) := by decide +kernel
theorem dX6_verdictOnSix_170 : decode cX6_verdictOnSix 170 = .ok (.getfield 408, 3) := by decide +kernel
theorem dX6_verdictOnSix_173 : decode cX6_verdictOnSix 173 = .ok (.invokevirtual 158, 3) := by decide +kernel
theorem dX6_verdictOnSix_176 : decode cX6_verdictOnSix 176 = .ok (.invokestatic 409, 3) := by decide +kernel
theorem dX6_verdictOnSix_179 : decode cX6_verdictOnSix 179 = .ok (.ifCond .eq 17, 3) := by decide +kernel
theorem dX6_verdictOnSix_182 : decode cX6_verdictOnSix 182 = .ok (.aload_n 0, 1) := by decide +kernel
theorem dX6_verdictOnSix_183 : decode cX6_verdictOnSix 183 = .ok (.aload_n 1, 1) := by decide +kernel
theorem dX6_verdictOnSix_184 : decode cX6_verdictOnSix 184 = .ok (.aload_n 0, 1) := by decide +kernel
theorem dX6_verdictOnSix_185 : decode cX6_verdictOnSix 185 = .ok (.getfield 52, 3) := by decide +kernel
theorem dX6_verdictOnSix_188 : decode cX6_verdictOnSix 188 = .ok (.invokevirtual 412, 3) := by decide +kernel
theorem dX6_verdictOnSix_191 : decode cX6_verdictOnSix 191 = .ok (.istore 6, 2) := by decide +kernel
theorem dX6_verdictOnSix_193 : decode cX6_verdictOnSix 193 = .ok (.goto 8, 3) := by decide +kernel
theorem dX6_verdictOnSix_196 : decode cX6_verdictOnSix 196 = .ok (.aload_n 0, 1) := by decide +kernel
theorem dX6_verdictOnSix_197 : decode cX6_verdictOnSix 197 = .ok (.aload_n 1, 1) := by decide +kernel
theorem dX6_verdictOnSix_198 : decode cX6_verdictOnSix 198 = .ok (.invokevirtual 416, 3) := by decide +kernel
theorem dX6_verdictOnSix_201 : decode cX6_verdictOnSix 201 = .ok (.iload 6, 2) := by decide +kernel
theorem dX6_verdictOnSix_203 : decode cX6_verdictOnSix 203 = .ok (.ifCond .eq 6, 3) := by decide +kernel
theorem dX6_verdictOnSix_206 : decode cX6_verdictOnSix 206 = .ok (.iload 6, 2) := by decide +kernel
theorem dX6_verdictOnSix_208 : decode cX6_verdictOnSix 208 = .ok (.ireturn, 1) := by decide +kernel
theorem dX6_verdictOnSix_209 : decode cX6_verdictOnSix 209 = .ok (.bipush 20, 2) := by decide +kernel
theorem dX6_verdictOnSix_211 : decode cX6_verdictOnSix 211 = .ok (.aload_n 0, 1) := by decide +kernel
theorem dX6_verdictOnSix_212 : decode cX6_verdictOnSix 212 = .ok (.getfield 18, 3) := by decide +kernel
theorem dX6_verdictOnSix_215 : decode cX6_verdictOnSix 215 = .ok (.getfield 89, 3) := by decide +kernel
theorem dX6_verdictOnSix_218 : decode cX6_verdictOnSix 218 = .ok (.iadd, 1) := by decide +kernel
theorem dX6_verdictOnSix_219 : decode cX6_verdictOnSix 219 = .ok (.istore 7, 2) := by decide +kernel
theorem dX6_verdictOnSix_221 : decode cX6_verdictOnSix 221 = .ok (.iload 7, 2) := by decide +kernel
theorem dX6_verdictOnSix_223 : decode cX6_verdictOnSix 223 = .ok (.ldc_w 308, 3) := by decide +kernel
theorem dX6_verdictOnSix_226 : decode cX6_verdictOnSix 226 = .ok (.if_icmp .le 5, 3) := by decide +kernel
theorem dX6_verdictOnSix_229 : decode cX6_verdictOnSix 229 = .ok (.iconst 4, 1) := by decide +kernel
theorem dX6_verdictOnSix_230 : decode cX6_verdictOnSix 230 = .ok (.ireturn, 1) := by decide +kernel
theorem dX6_verdictOnSix_231 : decode cX6_verdictOnSix 231 = .ok (.aload_n 1, 1) := by decide +kernel
theorem dX6_verdictOnSix_232 : decode cX6_verdictOnSix 232 = .ok (.getfield 420, 3) := by decide +kernel
theorem dX6_verdictOnSix_235 : decode cX6_verdictOnSix 235 = .ok (.ifCond .ne 36, 3) := by decide +kernel
theorem dX6_verdictOnSix_238 : decode cX6_verdictOnSix 238 = .ok (.iload 7, 2) := by decide +kernel
theorem dX6_verdictOnSix_240 : decode cX6_verdictOnSix 240 = .ok (.sipush 1260, 3) := by decide +kernel
theorem dX6_verdictOnSix_243 : decode cX6_verdictOnSix 243 = .ok (.if_icmp .le 28, 3) := by decide +kernel
theorem dX6_verdictOnSix_246 : decode cX6_verdictOnSix 246 = .ok (.iload 7, 2) := by decide +kernel
theorem dX6_verdictOnSix_248 : decode cX6_verdictOnSix 248 = .ok (.aload_n 0, 1) := by decide +kernel
theorem dX6_verdictOnSix_249 : decode cX6_verdictOnSix 249 = .ok (.getfield 73, 3) := by decide +kernel
theorem dX6_verdictOnSix_252 : decode cX6_verdictOnSix 252 = .ok (.if_icmp .le 19, 3) := by decide +kernel
theorem dX6_verdictOnSix_255 : decode cX6_verdictOnSix 255 = .ok (.aload_n 0, 1) := by decide +kernel
theorem dX6_verdictOnSix_256 : decode cX6_verdictOnSix 256 = .ok (.aload_n 1, 1) := by decide +kernel
theorem dX6_verdictOnSix_257 : decode cX6_verdictOnSix 257 = .ok (.sipush 512, 3) := by decide +kernel
theorem dX6_verdictOnSix_260 : decode cX6_verdictOnSix 260 = .ok (.aload_n 0, 1) := by decide +kernel
theorem dX6_verdictOnSix_261 : decode cX6_verdictOnSix 261 = .ok (.getfield 73, 3) := by decide +kernel
theorem dX6_verdictOnSix_264 : decode cX6_verdictOnSix 264 = .ok (.bipush 20, 2) := by decide +kernel
theorem dX6_verdictOnSix_266 : decode cX6_verdictOnSix 266 = .ok (.iadd, 1) := by decide +kernel
theorem dX6_verdictOnSix_267 : decode cX6_verdictOnSix 267 = .ok (.invokevirtual 399, 3) := by decide +kernel
theorem dX6_verdictOnSix_270 : decode cX6_verdictOnSix 270 = .ok (.ireturn, 1) := by decide +kernel
theorem dX6_verdictOnSix_271 : decode cX6_verdictOnSix 271 = .ok (.aload_n 0, 1) := by decide +kernel
theorem dX6_verdictOnSix_272 : decode cX6_verdictOnSix 272 = .ok (.aload_n 1, 1) := by decide +kernel
theorem dX6_verdictOnSix_273 : decode cX6_verdictOnSix 273 = .ok (.invokevirtual 423, 3) := by decide +kernel
theorem dX6_verdictOnSix_276 : decode cX6_verdictOnSix 276 = .ok (.iconst 0, 1) := by decide +kernel
theorem dX6_verdictOnSix_277 : decode cX6_verdictOnSix 277 = .ok (.ireturn, 1) := by decide +kernel
theorem dX6_faultOfSix_0 : decode cX6_faultOfSix 0 = .ok (.aload_n 1, 1) := by decide +kernel
theorem dX6_faultOfSix_1 : decode cX6_faultOfSix 1 = .ok (.getfield 407, 3) := by decide +kernel
theorem dX6_faultOfSix_4 : decode cX6_faultOfSix 4 = .ok (.invokestatic 426, 3) := by decide +kernel
theorem dX6_faultOfSix_7 : decode cX6_faultOfSix 7 = .ok (.ifCond .eq 6, 3) := by decide +kernel
theorem dX6_faultOfSix_10 : decode cX6_faultOfSix 10 = .ok (.bipush 6, 2) := by decide +kernel
theorem dX6_faultOfSix_12 : decode cX6_faultOfSix 12 = .ok (.ireturn, 1) := by decide +kernel
theorem dX6_faultOfSix_13 : decode cX6_faultOfSix 13 = .ok (.aload_n 1, 1) := by decide +kernel
theorem dX6_faultOfSix_14 : decode cX6_faultOfSix 14 = .ok (.getfield 407, 3) := by decide +kernel
theorem dX6_faultOfSix_17 : decode cX6_faultOfSix 17 = .ok (.bipush 58, 2) := by decide +kernel
theorem dX6_faultOfSix_19 : decode cX6_faultOfSix 19 = .ok (.if_icmp .ne 12, 3) := by decide +kernel
theorem dX6_faultOfSix_22 : decode cX6_faultOfSix 22 = .ok (.aload_n 1, 1) := by decide +kernel
theorem dX6_faultOfSix_23 : decode cX6_faultOfSix 23 = .ok (.invokevirtual 429, 3) := by decide +kernel
theorem dX6_faultOfSix_26 : decode cX6_faultOfSix 26 = .ok (.ifCond .eq 5, 3) := by decide +kernel
theorem dX6_faultOfSix_29 : decode cX6_faultOfSix 29 = .ok (.iconst 5, 1) := by decide +kernel
theorem dX6_faultOfSix_30 : decode cX6_faultOfSix 30 = .ok (.ireturn, 1) := by decide +kernel
theorem dX6_faultOfSix_31 : decode cX6_faultOfSix 31 = .ok (.aload_n 0, 1) := by decide +kernel
theorem dX6_faultOfSix_32 : decode cX6_faultOfSix 32 = .ok (.aload_n 1, 1) := by decide +kernel
theorem dX6_faultOfSix_33 : decode cX6_faultOfSix 33 = .ok (.iconst 0, 1) := by decide +kernel
theorem dX6_faultOfSix_34 : decode cX6_faultOfSix 34 = .ok (.invokevirtual 253, 3) := by decide +kernel
theorem dX6_faultOfSix_37 : decode cX6_faultOfSix 37 = .ok (.istore_n 2, 1) := by decide +kernel
theorem dX6_faultOfSix_38 : decode cX6_faultOfSix 38 = .ok (.iload_n 2, 1) := by decide +kernel
theorem dX6_faultOfSix_39 : decode cX6_faultOfSix 39 = .ok (.ifCond .ne 12, 3) := by decide +kernel
theorem dX6_faultOfSix_42 : decode cX6_faultOfSix 42 = .ok (.aload_n 1, 1) := by decide +kernel
theorem dX6_faultOfSix_43 : decode cX6_faultOfSix 43 = .ok (.getfield 407, 3) := by decide +kernel
theorem dX6_faultOfSix_46 : decode cX6_faultOfSix 46 = .ok (.bipush 58, 2) := by decide +kernel
theorem dX6_faultOfSix_48 : decode cX6_faultOfSix 48 = .ok (.if_icmp .eq 5, 3) := by decide +kernel
theorem dX6_faultOfSix_51 : decode cX6_faultOfSix 51 = .ok (.iload_n 2, 1) := by decide +kernel
theorem dX6_faultOfSix_52 : decode cX6_faultOfSix 52 = .ok (.ireturn, 1) := by decide +kernel
theorem dX6_faultOfSix_53 : decode cX6_faultOfSix 53 = .ok (.aload_n 0, 1) := by decide +kernel
theorem dX6_faultOfSix_54 : decode cX6_faultOfSix 54 = .ok (.getfield 14, 3) := by decide +kernel
theorem dX6_faultOfSix_57 : decode cX6_faultOfSix 57 = .ok (.aload_n 1, 1) := by decide +kernel
theorem dX6_faultOfSix_58 : decode cX6_faultOfSix 58 = .ok (.getfield 408, 3) := by decide +kernel
theorem dX6_faultOfSix_61 : decode cX6_faultOfSix 61 = .ok (.invokevirtual 158, 3) := by decide +kernel
theorem dX6_faultOfSix_64 : decode cX6_faultOfSix 64 = .ok (.istore_n 3, 1) := by decide +kernel
theorem dX6_faultOfSix_65 : decode cX6_faultOfSix 65 = .ok (.iload_n 3, 1) := by decide +kernel
theorem dX6_faultOfSix_66 : decode cX6_faultOfSix 66 = .ok (.invokestatic 430, 3) := by decide +kernel
theorem dX6_faultOfSix_69 : decode cX6_faultOfSix 69 = .ok (.ifCond .ne 10, 3) := by decide +kernel
theorem dX6_faultOfSix_72 : decode cX6_faultOfSix 72 = .ok (.iload_n 3, 1) := by decide +kernel
theorem dX6_faultOfSix_73 : decode cX6_faultOfSix 73 = .ok (.invokestatic 409, 3) := by decide +kernel
theorem dX6_faultOfSix_76 : decode cX6_faultOfSix 76 = .ok (.ifCond .eq 7, 3) := by decide +kernel
theorem dX6_faultOfSix_79 : decode cX6_faultOfSix 79 = .ok (.iconst 0, 1) := by decide +kernel
theorem dX6_faultOfSix_80 : decode cX6_faultOfSix 80 = .ok (.goto 5, 3) := by decide +kernel
theorem dX6_faultOfSix_83 : decode cX6_faultOfSix 83 = .ok (.bipush 6, 2) := by decide +kernel
theorem dX6_faultOfSix_85 : decode cX6_faultOfSix 85 = .ok (.ireturn, 1) := by decide +kernel
theorem dX6_isEchoSix_0 : decode cX6_isEchoSix 0 = .ok (.iload_n 0, 1) := by decide +kernel
theorem dX6_isEchoSix_1 : decode cX6_isEchoSix 1 = .ok (.sipush 128, 3) := by decide +kernel
theorem dX6_isEchoSix_4 : decode cX6_isEchoSix 4 = .ok (.if_icmp .eq 10, 3) := by decide +kernel
theorem dX6_isEchoSix_7 : decode cX6_isEchoSix 7 = .ok (.iload_n 0, 1) := by decide +kernel
theorem dX6_isEchoSix_8 : decode cX6_isEchoSix 8 = .ok (.sipush 129, 3) := by decide +kernel
theorem dX6_isEchoSix_11 : decode cX6_isEchoSix 11 = .ok (.if_icmp .ne 7, 3) := by decide +kernel
theorem dX6_isEchoSix_14 : decode cX6_isEchoSix 14 = .ok (.iconst 1, 1) := by decide +kernel
theorem dX6_isEchoSix_15 : decode cX6_isEchoSix 15 = .ok (.goto 4, 3) := by decide +kernel
theorem dX6_isEchoSix_18 : decode cX6_isEchoSix 18 = .ok (.iconst 0, 1) := by decide +kernel
theorem dX6_isEchoSix_19 : decode cX6_isEchoSix 19 = .ok (.ireturn, 1) := by decide +kernel
theorem dX6_isErrorSix_0 : decode cX6_isErrorSix 0 = .ok (.iload_n 0, 1) := by decide +kernel
theorem dX6_isErrorSix_1 : decode cX6_isErrorSix 1 = .ok (.iconst 1, 1) := by decide +kernel
theorem dX6_isErrorSix_2 : decode cX6_isErrorSix 2 = .ok (.if_icmp .lt 12, 3) := by decide +kernel
theorem dX6_isErrorSix_5 : decode cX6_isErrorSix 5 = .ok (.iload_n 0, 1) := by decide +kernel
theorem dX6_isErrorSix_6 : decode cX6_isErrorSix 6 = .ok (.iconst 4, 1) := by decide +kernel
theorem dX6_isErrorSix_7 : decode cX6_isErrorSix 7 = .ok (.if_icmp .gt 7, 3) := by decide +kernel
theorem dX6_isErrorSix_10 : decode cX6_isErrorSix 10 = .ok (.iconst 1, 1) := by decide +kernel
