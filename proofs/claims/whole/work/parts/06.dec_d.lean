theorem dX9_decide_46 : decode cX9_decide 46 = .ok (.iload_n 1, 1) := by decide +kernel
theorem dX9_decide_47 : decode cX9_decide 47 = .ok (.iload 5, 2) := by decide +kernel
theorem dX9_decide_49 : decode cX9_decide 49 = .ok (.bipush (-9), 2) := by decide +kernel
theorem dX9_decide_51 : decode cX9_decide 51 = .ok (.invokevirtual 171, 3) := by decide +kernel
theorem dX9_decide_54 : decode cX9_decide 54 = .ok (.istore 6, 2) := by decide +kernel
theorem dX9_decide_56 : decode cX9_decide 56 = .ok (.aload_n 0, 1) := by decide +kernel
theorem dX9_decide_57 : decode cX9_decide 57 = .ok (.getfield 57, 3) := by decide +kernel
theorem dX9_decide_60 : decode cX9_decide 60 = .ok (.iload_n 1, 1) := by decide +kernel
theorem dX9_decide_61 : decode cX9_decide 61 = .ok (.iaload, 1) := by decide +kernel
theorem dX9_decide_62 : decode cX9_decide 62 = .ok (.ifCond .ne 10, 3) := by decide +kernel
theorem dX9_decide_65 : decode cX9_decide 65 = .ok (.iload 6, 2) := by decide +kernel
theorem dX9_decide_67 : decode cX9_decide 67 = .ok (.bipush (-9), 2) := by decide +kernel
theorem dX9_decide_69 : decode cX9_decide 69 = .ok (.if_icmp .ne 10, 3) := by decide +kernel
theorem dX9_decide_72 : decode cX9_decide 72 = .ok (.aload_n 0, 1) := by decide +kernel
theorem dX9_decide_73 : decode cX9_decide 73 = .ok (.bipush (-3), 2) := by decide +kernel
theorem dX9_decide_75 : decode cX9_decide 75 = .ok (.invokevirtual 128, 3) := by decide +kernel
theorem dX9_decide_78 : decode cX9_decide 78 = .ok (.ireturn, 1) := by decide +kernel
theorem dX9_decide_79 : decode cX9_decide 79 = .ok (.aload_n 0, 1) := by decide +kernel
theorem dX9_decide_80 : decode cX9_decide 80 = .ok (.getfield 26, 3) := by decide +kernel
theorem dX9_decide_83 : decode cX9_decide 83 = .ok (.iload 5, 2) := by decide +kernel
theorem dX9_decide_85 : decode cX9_decide 85 = .ok (.dup2, 1) := by decide +kernel
theorem dX9_decide_86 : decode cX9_decide 86 = .ok (.iaload, 1) := by decide +kernel
theorem dX9_decide_87 : decode cX9_decide 87 = .ok (.iconst 1, 1) := by decide +kernel
theorem dX9_decide_88 : decode cX9_decide 88 = .ok (.iadd, 1) := by decide +kernel
theorem dX9_decide_89 : decode cX9_decide 89 = .ok (.iastore, 1) := by decide +kernel
theorem dX9_decide_90 : decode cX9_decide 90 = .ok (.aload_n 0, 1) := by decide +kernel
theorem dX9_decide_91 : decode cX9_decide 91 = .ok (.getfield 26, 3) := by decide +kernel
theorem dX9_decide_94 : decode cX9_decide 94 = .ok (.iload 6, 2) := by decide +kernel
theorem dX9_decide_96 : decode cX9_decide 96 = .ok (.dup2, 1) := by decide +kernel
theorem dX9_decide_97 : decode cX9_decide 97 = .ok (.iaload, 1) := by decide +kernel
theorem dX9_decide_98 : decode cX9_decide 98 = .ok (.iconst 1, 1) := by decide +kernel
theorem dX9_decide_99 : decode cX9_decide 99 = .ok (.iadd, 1) := by decide +kernel
theorem dX9_decide_100 : decode cX9_decide 100 = .ok (.iastore, 1) := by decide +kernel
theorem dX9_decide_101 : decode cX9_decide 101 = .ok (.iload_n 2, 1) := by decide +kernel
theorem dX9_decide_102 : decode cX9_decide 102 = .ok (.ifCond .eq 11, 3) := by decide +kernel
theorem dX9_decide_105 : decode cX9_decide 105 = .ok (.iload_n 3, 1) := by decide +kernel
theorem dX9_decide_106 : decode cX9_decide 106 = .ok (.ifCond .eq 7, 3) := by decide +kernel
theorem dX9_decide_109 : decode cX9_decide 109 = .ok (.iconst 1, 1) := by decide +kernel
theorem dX9_decide_110 : decode cX9_decide 110 = .ok (.goto 4, 3) := by decide +kernel
theorem dX9_decide_113 : decode cX9_decide 113 = .ok (.iconst 0, 1) := by decide +kernel
theorem dX9_decide_114 : decode cX9_decide 114 = .ok (.istore 7, 2) := by decide +kernel
theorem dX9_decide_116 : decode cX9_decide 116 = .ok (.iload_n 2, 1) := by decide +kernel
theorem dX9_decide_117 : decode cX9_decide 117 = .ok (.iload_n 3, 1) := by decide +kernel
theorem dX9_decide_118 : decode cX9_decide 118 = .ok (.if_icmp .eq 36, 3) := by decide +kernel
theorem dX9_decide_121 : decode cX9_decide 121 = .ok (.aload_n 0, 1) := by decide +kernel
theorem dX9_decide_122 : decode cX9_decide 122 = .ok (.iload_n 1, 1) := by decide +kernel
theorem dX9_decide_123 : decode cX9_decide 123 = .ok (.iload 5, 2) := by decide +kernel
theorem dX9_decide_125 : decode cX9_decide 125 = .ok (.iload 6, 2) := by decide +kernel
theorem dX9_decide_127 : decode cX9_decide 127 = .ok (.invokevirtual 171, 3) := by decide +kernel
theorem dX9_decide_130 : decode cX9_decide 130 = .ok (.istore 8, 2) := by decide +kernel
theorem dX9_decide_132 : decode cX9_decide 132 = .ok (.iload 8, 2) := by decide +kernel
theorem dX9_decide_134 : decode cX9_decide 134 = .ok (.bipush (-9), 2) := by decide +kernel
theorem dX9_decide_136 : decode cX9_decide 136 = .ok (.if_icmp .eq 18, 3) := by decide +kernel
theorem dX9_decide_139 : decode cX9_decide 139 = .ok (.aload_n 0, 1) := by decide +kernel
theorem dX9_decide_140 : decode cX9_decide 140 = .ok (.getfield 26, 3) := by decide +kernel
theorem dX9_decide_143 : decode cX9_decide 143 = .ok (.iload 8, 2) := by decide +kernel
theorem dX9_decide_145 : decode cX9_decide 145 = .ok (.dup2, 1) := by decide +kernel
theorem dX9_decide_146 : decode cX9_decide 146 = .ok (.iaload, 1) := by decide +kernel
theorem dX9_decide_147 : decode cX9_decide 147 = .ok (.iconst 1, 1) := by decide +kernel
theorem dX9_decide_148 : decode cX9_decide 148 = .ok (.iadd, 1) := by decide +kernel
theorem dX9_decide_149 : decode cX9_decide 149 = .ok (.iastore, 1) := by decide +kernel
theorem dX9_decide_150 : decode cX9_decide 150 = .ok (.iload 4, 2) := by decide +kernel
theorem dX9_decide_152 : decode cX9_decide 152 = .ok (.istore 7, 2) := by decide +kernel
theorem dX9_decide_154 : decode cX9_decide 154 = .ok (.iload 7, 2) := by decide +kernel
theorem dX9_decide_156 : decode cX9_decide 156 = .ok (.ifCond .ne 12, 3) := by decide +kernel
theorem dX9_decide_159 : decode cX9_decide 159 = .ok (.aload_n 0, 1) := by decide +kernel
theorem dX9_decide_160 : decode cX9_decide 160 = .ok (.iload_n 1, 1) := by decide +kernel
theorem dX9_decide_161 : decode cX9_decide 161 = .ok (.iconst 2, 1) := by decide +kernel
theorem dX9_decide_162 : decode cX9_decide 162 = .ok (.invokevirtual 181, 3) := by decide +kernel
theorem dX9_decide_165 : decode cX9_decide 165 = .ok (.pop, 1) := by decide +kernel
theorem dX9_decide_166 : decode cX9_decide 166 = .ok (.iconst 2, 1) := by decide +kernel
theorem dX9_decide_167 : decode cX9_decide 167 = .ok (.ireturn, 1) := by decide +kernel
theorem dX9_decide_168 : decode cX9_decide 168 = .ok (.iconst 0, 1) := by decide +kernel
theorem dX9_decide_169 : decode cX9_decide 169 = .ok (.istore 8, 2) := by decide +kernel
theorem dX9_decide_171 : decode cX9_decide 171 = .ok (.iload 8, 2) := by decide +kernel
theorem dX9_decide_173 : decode cX9_decide 173 = .ok (.aload_n 0, 1) := by decide +kernel
theorem dX9_decide_174 : decode cX9_decide 174 = .ok (.getfield 120, 3) := by decide +kernel
theorem dX9_decide_177 : decode cX9_decide 177 = .ok (.if_icmp .ge 43, 3) := by decide +kernel
theorem dX9_decide_180 : decode cX9_decide 180 = .ok (.aload_n 0, 1) := by decide +kernel
theorem dX9_decide_181 : decode cX9_decide 181 = .ok (.getfield 114, 3) := by decide +kernel
theorem dX9_decide_184 : decode cX9_decide 184 = .ok (.iload 8, 2) := by decide +kernel
theorem dX9_decide_186 : decode cX9_decide 186 = .ok (.iaload, 1) := by decide +kernel
theorem dX9_decide_187 : decode cX9_decide 187 = .ok (.aload_n 0, 1) := by decide +kernel
theorem dX9_decide_188 : decode cX9_decide 188 = .ok (.getfield 114, 3) := by decide +kernel
theorem dX9_decide_191 : decode cX9_decide 191 = .ok (.iload_n 1, 1) := by decide +kernel
theorem dX9_decide_192 : decode cX9_decide 192 = .ok (.iaload, 1) := by decide +kernel
theorem dX9_decide_193 : decode cX9_decide 193 = .ok (.if_icmp .ne 21, 3) := by decide +kernel
theorem dX9_decide_196 : decode cX9_decide 196 = .ok (.aload_n 0, 1) := by decide +kernel
theorem dX9_decide_197 : decode cX9_decide 197 = .ok (.getfield 57, 3) := by decide +kernel
theorem dX9_decide_200 : decode cX9_decide 200 = .ok (.iload 8, 2) := by decide +kernel
theorem dX9_decide_202 : decode cX9_decide 202 = .ok (.iaload, 1) := by decide +kernel
theorem dX9_decide_203 : decode cX9_decide 203 = .ok (.ifCond .ne 11, 3) := by decide +kernel
theorem dX9_decide_206 : decode cX9_decide 206 = .ok (.aload_n 0, 1) := by decide +kernel
theorem dX9_decide_207 : decode cX9_decide 207 = .ok (.iload 8, 2) := by decide +kernel
theorem dX9_decide_209 : decode cX9_decide 209 = .ok (.iconst 1, 1) := by decide +kernel
theorem dX9_decide_210 : decode cX9_decide 210 = .ok (.invokevirtual 181, 3) := by decide +kernel
theorem dX9_decide_213 : decode cX9_decide 213 = .ok (.pop, 1) := by decide +kernel
theorem dX9_decide_214 : decode cX9_decide 214 = .ok (.iinc 8 1, 3) := by decide +kernel
theorem dX9_decide_217 : decode cX9_decide 217 = .ok (.goto (-46), 3) := by decide +kernel
theorem dX9_decide_220 : decode cX9_decide 220 = .ok (.iconst 1, 1) := by decide +kernel
theorem dX9_decide_221 : decode cX9_decide 221 = .ok (.ireturn, 1) := by decide +kernel
theorem dX9_bench_0 : decode cX9_bench 0 = .ok (.iload_n 1, 1) := by decide +kernel
theorem dX9_bench_1 : decode cX9_bench 1 = .ok (.invokestatic 184, 3) := by decide +kernel
theorem dX9_bench_4 : decode cX9_bench 4 = .ok (.ifCond .eq 14, 3) := by decide +kernel
theorem dX9_bench_7 : decode cX9_bench 7 = .ok (.iload_n 2, 1) := by decide +kernel
theorem dX9_bench_8 : decode cX9_bench 8 = .ok (.ifCond .ne 16, 3) := by decide +kernel
theorem dX9_bench_11 : decode cX9_bench 11 = .ok (.iload_n 3, 1) := by decide +kernel
theorem dX9_bench_12 : decode cX9_bench 12 = .ok (.invokestatic 124, 3) := by decide +kernel
theorem dX9_bench_15 : decode cX9_bench 15 = .ok (.ifCond .ne 9, 3) := by decide +kernel
theorem dX9_bench_18 : decode cX9_bench 18 = .ok (.aload_n 0, 1) := by decide +kernel
theorem dX9_bench_19 : decode cX9_bench 19 = .ok (.iconst (-1), 1) := by decide +kernel
theorem dX9_bench_20 : decode cX9_bench 20 = .ok (.invokevirtual 128, 3) := by decide +kernel
theorem dX9_bench_23 : decode cX9_bench 23 = .ok (.ireturn, 1) := by decide +kernel
theorem dX9_bench_24 : decode cX9_bench 24 = .ok (.iload_n 2, 1) := by decide +kernel
theorem dX9_bench_25 : decode cX9_bench 25 = .ok (.ifCond .lt 8, 3) := by decide +kernel
theorem dX9_bench_28 : decode cX9_bench 28 = .ok (.iload_n 2, 1) := by decide +kernel
theorem dX9_bench_29 : decode cX9_bench 29 = .ok (.iconst 1, 1) := by decide +kernel
theorem dX9_bench_30 : decode cX9_bench 30 = .ok (.if_icmp .le 10, 3) := by decide +kernel
theorem dX9_bench_33 : decode cX9_bench 33 = .ok (.aload_n 0, 1) := by decide +kernel
theorem dX9_bench_34 : decode cX9_bench 34 = .ok (.bipush (-2), 2) := by decide +kernel
theorem dX9_bench_36 : decode cX9_bench 36 = .ok (.invokevirtual 128, 3) := by decide +kernel
theorem dX9_bench_39 : decode cX9_bench 39 = .ok (.ireturn, 1) := by decide +kernel
theorem dX9_bench_40 : decode cX9_bench 40 = .ok (.iload_n 3, 1) := by decide +kernel
theorem dX9_bench_41 : decode cX9_bench 41 = .ok (.ifCond .ge 10, 3) := by decide +kernel
theorem dX9_bench_44 : decode cX9_bench 44 = .ok (.aload_n 0, 1) := by decide +kernel
theorem dX9_bench_45 : decode cX9_bench 45 = .ok (.bipush (-4), 2) := by decide +kernel
theorem dX9_bench_47 : decode cX9_bench 47 = .ok (.invokevirtual 128, 3) := by decide +kernel
theorem dX9_bench_50 : decode cX9_bench 50 = .ok (.ireturn, 1) := by decide +kernel
theorem dX9_bench_51 : decode cX9_bench 51 = .ok (.iload_n 3, 1) := by decide +kernel
theorem dX9_bench_52 : decode cX9_bench 52 = .ok (.sipush 10000, 3) := by decide +kernel
theorem dX9_bench_55 : decode cX9_bench 55 = .ok (.if_icmp .le 10, 3) := by decide +kernel
theorem dX9_bench_58 : decode cX9_bench 58 = .ok (.aload_n 0, 1) := by decide +kernel
theorem dX9_bench_59 : decode cX9_bench 59 = .ok (.bipush (-6), 2) := by decide +kernel
theorem dX9_bench_61 : decode cX9_bench 61 = .ok (.invokevirtual 128, 3) := by decide +kernel
theorem dX9_bench_64 : decode cX9_bench 64 = .ok (.ireturn, 1) := by decide +kernel
theorem dX9_bench_65 : decode cX9_bench 65 = .ok (.iload_n 2, 1) := by decide +kernel
theorem dX9_bench_66 : decode cX9_bench 66 = .ok (.ifCond .ne 12, 3) := by decide +kernel
theorem dX9_bench_69 : decode cX9_bench 69 = .ok (.aload_n 0, 1) := by decide +kernel
theorem dX9_bench_70 : decode cX9_bench 70 = .ok (.getfield 78, 3) := by decide +kernel
theorem dX9_bench_73 : decode cX9_bench 73 = .ok (.iload_n 1, 1) := by decide +kernel
theorem dX9_bench_74 : decode cX9_bench 74 = .ok (.iaload, 1) := by decide +kernel
theorem dX9_bench_75 : decode cX9_bench 75 = .ok (.goto 9, 3) := by decide +kernel
theorem dX9_bench_78 : decode cX9_bench 78 = .ok (.aload_n 0, 1) := by decide +kernel
theorem dX9_bench_79 : decode cX9_bench 79 = .ok (.getfield 81, 3) := by decide +kernel
theorem dX9_bench_82 : decode cX9_bench 82 = .ok (.iload_n 1, 1) := by decide +kernel
theorem dX9_bench_83 : decode cX9_bench 83 = .ok (.iaload, 1) := by decide +kernel
theorem dX9_bench_84 : decode cX9_bench 84 = .ok (.istore 4, 2) := by decide +kernel
theorem dX9_bench_86 : decode cX9_bench 86 = .ok (.iload_n 2, 1) := by decide +kernel
theorem dX9_bench_87 : decode cX9_bench 87 = .ok (.ifCond .ne 13, 3) := by decide +kernel
theorem dX9_bench_90 : decode cX9_bench 90 = .ok (.aload_n 0, 1) := by decide +kernel
theorem dX9_bench_91 : decode cX9_bench 91 = .ok (.getfield 78, 3) := by decide +kernel
theorem dX9_bench_94 : decode cX9_bench 94 = .ok (.iload_n 1, 1) := by decide +kernel
theorem dX9_bench_95 : decode cX9_bench 95 = .ok (.iload_n 3, 1) := by decide +kernel
theorem dX9_bench_96 : decode cX9_bench 96 = .ok (.iastore, 1) := by decide +kernel
theorem dX9_bench_97 : decode cX9_bench 97 = .ok (.goto 10, 3) := by decide +kernel
theorem dX9_bench_100 : decode cX9_bench 100 = .ok (.aload_n 0, 1) := by decide +kernel
theorem dX9_bench_101 : decode cX9_bench 101 = .ok (.getfield 81, 3) := by decide +kernel
theorem dX9_bench_104 : decode cX9_bench 104 = .ok (.iload_n 1, 1) := by decide +kernel
theorem dX9_bench_105 : decode cX9_bench 105 = .ok (.iload_n 3, 1) := by decide +kernel
theorem dX9_bench_106 : decode cX9_bench 106 = .ok (.iastore, 1) := by decide +kernel
theorem dX9_bench_107 : decode cX9_bench 107 = .ok (.iload 4, 2) := by decide +kernel
theorem dX9_bench_109 : decode cX9_bench 109 = .ok (.ireturn, 1) := by decide +kernel
theorem dX9_measure_0 : decode cX9_measure 0 = .ok (.iload_n 1, 1) := by decide +kernel
theorem dX9_measure_1 : decode cX9_measure 1 = .ok (.invokestatic 184, 3) := by decide +kernel
theorem dX9_measure_4 : decode cX9_measure 4 = .ok (.ifCond .eq 11, 3) := by decide +kernel
theorem dX9_measure_7 : decode cX9_measure 7 = .ok (.aload_n 0, 1) := by decide +kernel
theorem dX9_measure_8 : decode cX9_measure 8 = .ok (.iload_n 2, 1) := by decide +kernel
theorem dX9_measure_9 : decode cX9_measure 9 = .ok (.invokevirtual 141, 3) := by decide +kernel
theorem dX9_measure_12 : decode cX9_measure 12 = .ok (.ifCond .ne 9, 3) := by decide +kernel
theorem dX9_measure_15 : decode cX9_measure 15 = .ok (.aload_n 0, 1) := by decide +kernel
theorem dX9_measure_16 : decode cX9_measure 16 = .ok (.iconst (-1), 1) := by decide +kernel
theorem dX9_measure_17 : decode cX9_measure 17 = .ok (.invokevirtual 128, 3) := by decide +kernel
theorem dX9_measure_20 : decode cX9_measure 20 = .ok (.ireturn, 1) := by decide +kernel
theorem dX9_measure_21 : decode cX9_measure 21 = .ok (.aload_n 0, 1) := by decide +kernel
theorem dX9_measure_22 : decode cX9_measure 22 = .ok (.getfield 45, 3) := by decide +kernel
theorem dX9_measure_25 : decode cX9_measure 25 = .ok (.iload_n 2, 1) := by decide +kernel
theorem dX9_measure_26 : decode cX9_measure 26 = .ok (.iaload, 1) := by decide +kernel
theorem dX9_measure_27 : decode cX9_measure 27 = .ok (.aload_n 0, 1) := by decide +kernel
theorem dX9_measure_28 : decode cX9_measure 28 = .ok (.getfield 78, 3) := by decide +kernel
theorem dX9_measure_31 : decode cX9_measure 31 = .ok (.iload_n 1, 1) := by decide +kernel
theorem dX9_measure_32 : decode cX9_measure 32 = .ok (.iaload, 1) := by decide +kernel
theorem dX9_measure_33 : decode cX9_measure 33 = .ok (.if_icmp .eq 10, 3) := by decide +kernel
theorem dX9_measure_36 : decode cX9_measure 36 = .ok (.aload_n 0, 1) := by decide +kernel
theorem dX9_measure_37 : decode cX9_measure 37 = .ok (.bipush (-3), 2) := by decide +kernel
theorem dX9_measure_39 : decode cX9_measure 39 = .ok (.invokevirtual 128, 3) := by decide +kernel
theorem dX9_measure_42 : decode cX9_measure 42 = .ok (.ireturn, 1) := by decide +kernel
theorem dX9_measure_43 : decode cX9_measure 43 = .ok (.iload 4, 2) := by decide +kernel
theorem dX9_measure_45 : decode cX9_measure 45 = .ok (.ifCond .ge 10, 3) := by decide +kernel
theorem dX9_measure_48 : decode cX9_measure 48 = .ok (.aload_n 0, 1) := by decide +kernel
theorem dX9_measure_49 : decode cX9_measure 49 = .ok (.bipush (-4), 2) := by decide +kernel
theorem dX9_measure_51 : decode cX9_measure 51 = .ok (.invokevirtual 128, 3) := by decide +kernel
theorem dX9_measure_54 : decode cX9_measure 54 = .ok (.ireturn, 1) := by decide +kernel
theorem dX9_measure_55 : decode cX9_measure 55 = .ok (.iload 4, 2) := by decide +kernel
theorem dX9_measure_57 : decode cX9_measure 57 = .ok (.sipush 9999, 3) := by decide +kernel
theorem dX9_measure_60 : decode cX9_measure 60 = .ok (.if_icmp .gt 13, 3) := by decide +kernel
theorem dX9_measure_63 : decode cX9_measure 63 = .ok (.aload_n 0, 1) := by decide +kernel
theorem dX9_measure_64 : decode cX9_measure 64 = .ok (.getfield 187, 3) := by decide +kernel
theorem dX9_measure_67 : decode cX9_measure 67 = .ok (.sipush 200, 3) := by decide +kernel
theorem dX9_measure_70 : decode cX9_measure 70 = .ok (.if_icmp .ne 10, 3) := by decide +kernel
theorem dX9_measure_73 : decode cX9_measure 73 = .ok (.aload_n 0, 1) := by decide +kernel
theorem dX9_measure_74 : decode cX9_measure 74 = .ok (.bipush (-6), 2) := by decide +kernel
theorem dX9_measure_76 : decode cX9_measure 76 = .ok (.invokevirtual 128, 3) := by decide +kernel
theorem dX9_measure_79 : decode cX9_measure 79 = .ok (.ireturn, 1) := by decide +kernel
theorem dX9_measure_80 : decode cX9_measure 80 = .ok (.aload_n 0, 1) := by decide +kernel
theorem dX9_measure_81 : decode cX9_measure 81 = .ok (.getfield 84, 3) := by decide +kernel
theorem dX9_measure_84 : decode cX9_measure 84 = .ok (.aload_n 0, 1) := by decide +kernel
theorem dX9_measure_85 : decode cX9_measure 85 = .ok (.getfield 187, 3) := by decide +kernel
theorem dX9_measure_88 : decode cX9_measure 88 = .ok (.iload_n 1, 1) := by decide +kernel
theorem dX9_measure_89 : decode cX9_measure 89 = .ok (.iastore, 1) := by decide +kernel
theorem dX9_measure_90 : decode cX9_measure 90 = .ok (.aload_n 0, 1) := by decide +kernel
theorem dX9_measure_91 : decode cX9_measure 91 = .ok (.getfield 87, 3) := by decide +kernel
theorem dX9_measure_94 : decode cX9_measure 94 = .ok (.aload_n 0, 1) := by decide +kernel
theorem dX9_measure_95 : decode cX9_measure 95 = .ok (.getfield 187, 3) := by decide +kernel
theorem dX9_measure_98 : decode cX9_measure 98 = .ok (.iload_n 2, 1) := by decide +kernel
theorem dX9_measure_99 : decode cX9_measure 99 = .ok (.iastore, 1) := by decide +kernel
theorem dX9_measure_100 : decode cX9_measure 100 = .ok (.aload_n 0, 1) := by decide +kernel
theorem dX9_measure_101 : decode cX9_measure 101 = .ok (.getfield 93, 3) := by decide +kernel
theorem dX9_measure_104 : decode cX9_measure 104 = .ok (.aload_n 0, 1) := by decide +kernel
theorem dX9_measure_105 : decode cX9_measure 105 = .ok (.getfield 187, 3) := by decide +kernel
theorem dX9_measure_108 : decode cX9_measure 108 = .ok (.iload_n 3, 1) := by decide +kernel
theorem dX9_measure_109 : decode cX9_measure 109 = .ok (.bastore, 1) := by decide +kernel
theorem dX9_measure_110 : decode cX9_measure 110 = .ok (.aload_n 0, 1) := by decide +kernel
theorem dX9_measure_111 : decode cX9_measure 111 = .ok (.getfield 90, 3) := by decide +kernel
theorem dX9_measure_114 : decode cX9_measure 114 = .ok (.aload_n 0, 1) := by decide +kernel
theorem dX9_measure_115 : decode cX9_measure 115 = .ok (.getfield 187, 3) := by decide +kernel
theorem dX9_measure_118 : decode cX9_measure 118 = .ok (.iload 4, 2) := by decide +kernel
theorem dX9_measure_120 : decode cX9_measure 120 = .ok (.iastore, 1) := by decide +kernel
theorem dX9_measure_121 : decode cX9_measure 121 = .ok (.aload_n 0, 1) := by decide +kernel
theorem dX9_measure_122 : decode cX9_measure 122 = .ok (.dup, 1) := by decide +kernel
theorem dX9_measure_123 : decode cX9_measure 123 = .ok (.getfield 187, 3) := by decide +kernel
theorem dX9_measure_126 : decode cX9_measure 126 = .ok (.iconst 1, 1) := by decide +kernel
theorem dX9_measure_127 : decode cX9_measure 127 = .ok (.iadd, 1) := by decide +kernel
theorem dX9_measure_128 : decode cX9_measure 128 = .ok (.dup_x1, 1) := by decide +kernel
theorem dX9_measure_129 : decode cX9_measure 129 = .ok (.putfield 187, 3) := by decide +kernel
theorem dX9_measure_132 : decode cX9_measure 132 = .ok (.ireturn, 1) := by decide +kernel
theorem dX9_saves_0 : decode cX9_saves 0 = .ok (.iconst 0, 1) := by decide +kernel
theorem dX9_saves_1 : decode cX9_saves 1 = .ok (.istore 4, 2) := by decide +kernel
theorem dX9_saves_3 : decode cX9_saves 3 = .ok (.iconst 0, 1) := by decide +kernel
theorem dX9_saves_4 : decode cX9_saves 4 = .ok (.istore 5, 2) := by decide +kernel
theorem dX9_saves_6 : decode cX9_saves 6 = .ok (.iconst 0, 1) := by decide +kernel
theorem dX9_saves_7 : decode cX9_saves 7 = .ok (.istore 6, 2) := by decide +kernel
theorem dX9_saves_9 : decode cX9_saves 9 = .ok (.iconst 0, 1) := by decide +kernel
theorem dX9_saves_10 : decode cX9_saves 10 = .ok (.istore 7, 2) := by decide +kernel
theorem dX9_saves_12 : decode cX9_saves 12 = .ok (.iconst 0, 1) := by decide +kernel
theorem dX9_saves_13 : decode cX9_saves 13 = .ok (.istore 8, 2) := by decide +kernel
theorem dX9_saves_15 : decode cX9_saves 15 = .ok (.iconst 0, 1) := by decide +kernel
theorem dX9_saves_16 : decode cX9_saves 16 = .ok (.istore 9, 2) := by decide +kernel
theorem dX9_saves_18 : decode cX9_saves 18 = .ok (.iconst 0, 1) := by decide +kernel
theorem dX9_saves_19 : decode cX9_saves 19 = .ok (.istore 10, 2) := by decide +kernel
theorem dX9_saves_21 : decode cX9_saves 21 = .ok (.iload 10, 2) := by decide +kernel
theorem dX9_saves_23 : decode cX9_saves 23 = .ok (.aload_n 0, 1) := by decide +kernel
theorem dX9_saves_24 : decode cX9_saves 24 = .ok (.getfield 187, 3) := by decide +kernel
theorem dX9_saves_27 : decode cX9_saves 27 = .ok (.if_icmp .ge 113, 3) := by decide +kernel
theorem dX9_saves_30 : decode cX9_saves 30 = .ok (.aload_n 0, 1) := by decide +kernel
theorem dX9_saves_31 : decode cX9_saves 31 = .ok (.getfield 84, 3) := by decide +kernel
theorem dX9_saves_34 : decode cX9_saves 34 = .ok (.iload 10, 2) := by decide +kernel
theorem dX9_saves_36 : decode cX9_saves 36 = .ok (.iaload, 1) := by decide +kernel
theorem dX9_saves_37 : decode cX9_saves 37 = .ok (.iload_n 2, 1) := by decide +kernel
theorem dX9_saves_38 : decode cX9_saves 38 = .ok (.if_icmp .ne 96, 3) := by decide +kernel
theorem dX9_saves_41 : decode cX9_saves 41 = .ok (.aload_n 0, 1) := by decide +kernel
theorem dX9_saves_42 : decode cX9_saves 42 = .ok (.getfield 114, 3) := by decide +kernel
theorem dX9_saves_45 : decode cX9_saves 45 = .ok (.aload_n 0, 1) := by decide +kernel
theorem dX9_saves_46 : decode cX9_saves 46 = .ok (.getfield 87, 3) := by decide +kernel
theorem dX9_saves_49 : decode cX9_saves 49 = .ok (.iload 10, 2) := by decide +kernel
theorem dX9_saves_51 : decode cX9_saves 51 = .ok (.iaload, 1) := by decide +kernel
theorem dX9_saves_52 : decode cX9_saves 52 = .ok (.iaload, 1) := by decide +kernel
theorem dX9_saves_53 : decode cX9_saves 53 = .ok (.iload_n 1, 1) := by decide +kernel
theorem dX9_saves_54 : decode cX9_saves 54 = .ok (.if_icmp .eq 6, 3) := by decide +kernel
theorem dX9_saves_57 : decode cX9_saves 57 = .ok (.goto 77, 3) := by decide +kernel
theorem dX9_saves_60 : decode cX9_saves 60 = .ok (.aload_n 0, 1) := by decide +kernel
theorem dX9_saves_61 : decode cX9_saves 61 = .ok (.getfield 90, 3) := by decide +kernel
theorem dX9_saves_64 : decode cX9_saves 64 = .ok (.iload 10, 2) := by decide +kernel
theorem dX9_saves_66 : decode cX9_saves 66 = .ok (.iaload, 1) := by decide +kernel
theorem dX9_saves_67 : decode cX9_saves 67 = .ok (.istore 11, 2) := by decide +kernel
theorem dX9_saves_69 : decode cX9_saves 69 = .ok (.aload_n 0, 1) := by decide +kernel
theorem dX9_saves_70 : decode cX9_saves 70 = .ok (.getfield 93, 3) := by decide +kernel
theorem dX9_saves_73 : decode cX9_saves 73 = .ok (.iload 10, 2) := by decide +kernel
theorem dX9_saves_75 : decode cX9_saves 75 = .ok (.baload, 1) := by decide +kernel
theorem dX9_saves_76 : decode cX9_saves 76 = .ok (.ifCond .eq 32, 3) := by decide +kernel
theorem dX9_saves_79 : decode cX9_saves 79 = .ok (.iload 5, 2) := by decide +kernel
theorem dX9_saves_81 : decode cX9_saves 81 = .ok (.ifCond .eq 10, 3) := by decide +kernel
theorem dX9_saves_84 : decode cX9_saves 84 = .ok (.iload 11, 2) := by decide +kernel
theorem dX9_saves_86 : decode cX9_saves 86 = .ok (.iload 9, 2) := by decide +kernel
theorem dX9_saves_88 : decode cX9_saves 88 = .ok (.if_icmp .le 7, 3) := by decide +kernel
theorem dX9_saves_91 : decode cX9_saves 91 = .ok (.iload 11, 2) := by decide +kernel
theorem dX9_saves_93 : decode cX9_saves 93 = .ok (.istore 9, 2) := by decide +kernel
theorem dX9_saves_95 : decode cX9_saves 95 = .ok (.iload 7, 2) := by decide +kernel
theorem dX9_saves_97 : decode cX9_saves 97 = .ok (.iload 11, 2) := by decide +kernel
theorem dX9_saves_99 : decode cX9_saves 99 = .ok (.iadd, 1) := by decide +kernel
theorem dX9_saves_100 : decode cX9_saves 100 = .ok (.istore 7, 2) := by decide +kernel
theorem dX9_saves_102 : decode cX9_saves 102 = .ok (.iinc 5 1, 3) := by decide +kernel
theorem dX9_saves_105 : decode cX9_saves 105 = .ok (.goto 29, 3) := by decide +kernel
theorem dX9_saves_108 : decode cX9_saves 108 = .ok (.iload 4, 2) := by decide +kernel
theorem dX9_saves_110 : decode cX9_saves 110 = .ok (.ifCond .eq 10, 3) := by decide +kernel
theorem dX9_saves_113 : decode cX9_saves 113 = .ok (.iload 11, 2) := by decide +kernel
theorem dX9_saves_115 : decode cX9_saves 115 = .ok (.iload 8, 2) := by decide +kernel
theorem dX9_saves_117 : decode cX9_saves 117 = .ok (.if_icmp .ge 7, 3) := by decide +kernel
theorem dX9_saves_120 : decode cX9_saves 120 = .ok (.iload 11, 2) := by decide +kernel
theorem dX9_saves_122 : decode cX9_saves 122 = .ok (.istore 8, 2) := by decide +kernel
theorem dX9_saves_124 : decode cX9_saves 124 = .ok (.iload 6, 2) := by decide +kernel
theorem dX9_saves_126 : decode cX9_saves 126 = .ok (.iload 11, 2) := by decide +kernel
theorem dX9_saves_128 : decode cX9_saves 128 = .ok (.iadd, 1) := by decide +kernel
theorem dX9_saves_129 : decode cX9_saves 129 = .ok (.istore 6, 2) := by decide +kernel
theorem dX9_saves_131 : decode cX9_saves 131 = .ok (.iinc 4 1, 3) := by decide +kernel
theorem dX9_saves_134 : decode cX9_saves 134 = .ok (.iinc 10 1, 3) := by decide +kernel
theorem dX9_saves_137 : decode cX9_saves 137 = .ok (.goto (-116), 3) := by decide +kernel
theorem dX9_saves_140 : decode cX9_saves 140 = .ok (.iload 4, 2) := by decide +kernel
theorem dX9_saves_142 : decode cX9_saves 142 = .ok (.ifCond .eq 8, 3) := by decide +kernel
theorem dX9_saves_145 : decode cX9_saves 145 = .ok (.iload 5, 2) := by decide +kernel
theorem dX9_saves_147 : decode cX9_saves 147 = .ok (.ifCond .ne 5, 3) := by decide +kernel
theorem dX9_saves_150 : decode cX9_saves 150 = .ok (.iconst 0, 1) := by decide +kernel
theorem dX9_saves_151 : decode cX9_saves 151 = .ok (.ireturn, 1) := by decide +kernel
theorem dX9_saves_152 : decode cX9_saves 152 = .ok (.iload_n 3, 1) := by decide +kernel
theorem dX9_saves_153 : decode cX9_saves 153 = .ok (.ifCond .eq 17, 3) := by decide +kernel
theorem dX9_saves_156 : decode cX9_saves 156 = .ok (.iload 6, 2) := by decide +kernel
theorem dX9_saves_158 : decode cX9_saves 158 = .ok (.iload 4, 2) := by decide +kernel
theorem dX9_saves_160 : decode cX9_saves 160 = .ok (.idiv, 1) := by decide +kernel
theorem dX9_saves_161 : decode cX9_saves 161 = .ok (.iload 7, 2) := by decide +kernel
theorem dX9_saves_163 : decode cX9_saves 163 = .ok (.iload 5, 2) := by decide +kernel
theorem dX9_saves_165 : decode cX9_saves 165 = .ok (.idiv, 1) := by decide +kernel
theorem dX9_saves_166 : decode cX9_saves 166 = .ok (.isub, 1) := by decide +kernel
theorem dX9_saves_167 : decode cX9_saves 167 = .ok (.goto 8, 3) := by decide +kernel
theorem dX9_saves_170 : decode cX9_saves 170 = .ok (.iload 8, 2) := by decide +kernel
theorem dX9_saves_172 : decode cX9_saves 172 = .ok (.iload 9, 2) := by decide +kernel
theorem dX9_saves_174 : decode cX9_saves 174 = .ok (.isub, 1) := by decide +kernel
theorem dX9_saves_175 : decode cX9_saves 175 = .ok (.istore 10, 2) := by decide +kernel
theorem dX9_saves_177 : decode cX9_saves 177 = .ok (.iload 10, 2) := by decide +kernel
theorem dX9_saves_179 : decode cX9_saves 179 = .ok (.ifCond .ge 7, 3) := by decide +kernel
theorem dX9_saves_182 : decode cX9_saves 182 = .ok (.iconst 0, 1) := by decide +kernel
theorem dX9_saves_183 : decode cX9_saves 183 = .ok (.goto 5, 3) := by decide +kernel
theorem dX9_saves_186 : decode cX9_saves 186 = .ok (.iload 10, 2) := by decide +kernel
theorem dX9_saves_188 : decode cX9_saves 188 = .ok (.ireturn, 1) := by decide +kernel
theorem dX9_saved_0 : decode cX9_saved 0 = .ok (.iload_n 1, 1) := by decide +kernel
theorem dX9_saved_1 : decode cX9_saved 1 = .ok (.invokestatic 184, 3) := by decide +kernel
theorem dX9_saved_4 : decode cX9_saved 4 = .ok (.ifCond .eq 11, 3) := by decide +kernel
theorem dX9_saved_7 : decode cX9_saved 7 = .ok (.aload_n 0, 1) := by decide +kernel
theorem dX9_saved_8 : decode cX9_saved 8 = .ok (.iload_n 2, 1) := by decide +kernel
theorem dX9_saved_9 : decode cX9_saved 9 = .ok (.invokevirtual 141, 3) := by decide +kernel
theorem dX9_saved_12 : decode cX9_saved 12 = .ok (.ifCond .ne 9, 3) := by decide +kernel
theorem dX9_saved_15 : decode cX9_saved 15 = .ok (.aload_n 0, 1) := by decide +kernel
theorem dX9_saved_16 : decode cX9_saved 16 = .ok (.iconst (-1), 1) := by decide +kernel
theorem dX9_saved_17 : decode cX9_saved 17 = .ok (.invokevirtual 128, 3) := by decide +kernel
theorem dX9_saved_20 : decode cX9_saved 20 = .ok (.ireturn, 1) := by decide +kernel
theorem dX9_saved_21 : decode cX9_saved 21 = .ok (.iload_n 3, 1) := by decide +kernel
theorem dX9_saved_22 : decode cX9_saved 22 = .ok (.ifCond .lt 8, 3) := by decide +kernel
theorem dX9_saved_25 : decode cX9_saved 25 = .ok (.iload_n 3, 1) := by decide +kernel
theorem dX9_saved_26 : decode cX9_saved 26 = .ok (.iconst 1, 1) := by decide +kernel
theorem dX9_saved_27 : decode cX9_saved 27 = .ok (.if_icmp .le 10, 3) := by decide +kernel
theorem dX9_saved_30 : decode cX9_saved 30 = .ok (.aload_n 0, 1) := by decide +kernel
theorem dX9_saved_31 : decode cX9_saved 31 = .ok (.bipush (-2), 2) := by decide +kernel
theorem dX9_saved_33 : decode cX9_saved 33 = .ok (.invokevirtual 128, 3) := by decide +kernel
theorem dX9_saved_36 : decode cX9_saved 36 = .ok (.ireturn, 1) := by decide +kernel
theorem dX9_saved_37 : decode cX9_saved 37 = .ok (.aload_n 0, 1) := by decide +kernel
theorem dX9_saved_38 : decode cX9_saved 38 = .ok (.aload_n 0, 1) := by decide +kernel
theorem dX9_saved_39 : decode cX9_saved 39 = .ok (.getfield 7, 3) := by decide +kernel
theorem dX9_saved_42 : decode cX9_saved 42 = .ok (.invokevirtual 155, 3) := by decide +kernel
theorem dX9_saved_45 : decode cX9_saved 45 = .ok (.aload_n 0, 1) := by decide +kernel
theorem dX9_saved_46 : decode cX9_saved 46 = .ok (.aload_n 0, 1) := by decide +kernel
theorem dX9_saved_47 : decode cX9_saved 47 = .ok (.getfield 114, 3) := by decide +kernel
theorem dX9_saved_50 : decode cX9_saved 50 = .ok (.iload_n 2, 1) := by decide +kernel
theorem dX9_saved_51 : decode cX9_saved 51 = .ok (.iaload, 1) := by decide +kernel
theorem dX9_saved_52 : decode cX9_saved 52 = .ok (.iload_n 1, 1) := by decide +kernel
theorem dX9_saved_53 : decode cX9_saved 53 = .ok (.iload_n 3, 1) := by decide +kernel
theorem dX9_saved_54 : decode cX9_saved 54 = .ok (.iconst 1, 1) := by decide +kernel
theorem dX9_saved_55 : decode cX9_saved 55 = .ok (.if_icmp .ne 7, 3) := by decide +kernel
theorem dX9_saved_58 : decode cX9_saved 58 = .ok (.iconst 1, 1) := by decide +kernel
theorem dX9_saved_59 : decode cX9_saved 59 = .ok (.goto 4, 3) := by decide +kernel
theorem dX9_saved_62 : decode cX9_saved 62 = .ok (.iconst 0, 1) := by decide +kernel
theorem dX9_saved_63 : decode cX9_saved 63 = .ok (.invokevirtual 190, 3) := by decide +kernel
theorem dX9_saved_66 : decode cX9_saved 66 = .ok (.ireturn, 1) := by decide +kernel
theorem dX9_harm_0 : decode cX9_harm 0 = .ok (.aload_n 0, 1) := by decide +kernel
theorem dX9_harm_1 : decode cX9_harm 1 = .ok (.iload_n 1, 1) := by decide +kernel
theorem dX9_harm_2 : decode cX9_harm 2 = .ok (.invokevirtual 141, 3) := by decide +kernel
theorem dX9_harm_5 : decode cX9_harm 5 = .ok (.ifCond .ne 9, 3) := by decide +kernel
theorem dX9_harm_8 : decode cX9_harm 8 = .ok (.aload_n 0, 1) := by decide +kernel
theorem dX9_harm_9 : decode cX9_harm 9 = .ok (.iconst (-1), 1) := by decide +kernel
theorem dX9_harm_10 : decode cX9_harm 10 = .ok (.invokevirtual 128, 3) := by decide +kernel
theorem dX9_harm_13 : decode cX9_harm 13 = .ok (.ireturn, 1) := by decide +kernel
theorem dX9_harm_14 : decode cX9_harm 14 = .ok (.iload_n 2, 1) := by decide +kernel
theorem dX9_harm_15 : decode cX9_harm 15 = .ok (.ifCond .ge 10, 3) := by decide +kernel
theorem dX9_harm_18 : decode cX9_harm 18 = .ok (.aload_n 0, 1) := by decide +kernel
theorem dX9_harm_19 : decode cX9_harm 19 = .ok (.bipush (-4), 2) := by decide +kernel
theorem dX9_harm_21 : decode cX9_harm 21 = .ok (.invokevirtual 128, 3) := by decide +kernel
theorem dX9_harm_24 : decode cX9_harm 24 = .ok (.ireturn, 1) := by decide +kernel
theorem dX9_harm_25 : decode cX9_harm 25 = .ok (.iload_n 2, 1) := by decide +kernel
theorem dX9_harm_26 : decode cX9_harm 26 = .ok (.ldc 194, 2) := by decide +kernel
theorem dX9_harm_28 : decode cX9_harm 28 = .ok (.if_icmp .le 10, 3) := by decide +kernel
theorem dX9_harm_31 : decode cX9_harm 31 = .ok (.aload_n 0, 1) := by decide +kernel
theorem dX9_harm_32 : decode cX9_harm 32 = .ok (.bipush (-6), 2) := by decide +kernel
theorem dX9_harm_34 : decode cX9_harm 34 = .ok (.invokevirtual 128, 3) := by decide +kernel
theorem dX9_harm_37 : decode cX9_harm 37 = .ok (.ireturn, 1) := by decide +kernel
theorem dX9_harm_38 : decode cX9_harm 38 = .ok (.aload_n 0, 1) := by decide +kernel
theorem dX9_harm_39 : decode cX9_harm 39 = .ok (.getfield 66, 3) := by decide +kernel
theorem dX9_harm_42 : decode cX9_harm 42 = .ok (.iload_n 1, 1) := by decide +kernel
theorem dX9_harm_43 : decode cX9_harm 43 = .ok (.iaload, 1) := by decide +kernel
theorem dX9_harm_44 : decode cX9_harm 44 = .ok (.istore_n 3, 1) := by decide +kernel
theorem dX9_harm_45 : decode cX9_harm 45 = .ok (.aload_n 0, 1) := by decide +kernel
theorem dX9_harm_46 : decode cX9_harm 46 = .ok (.getfield 66, 3) := by decide +kernel
theorem dX9_harm_49 : decode cX9_harm 49 = .ok (.iload_n 1, 1) := by decide +kernel
theorem dX9_harm_50 : decode cX9_harm 50 = .ok (.iload_n 2, 1) := by decide +kernel
theorem dX9_harm_51 : decode cX9_harm 51 = .ok (.iastore, 1) := by decide +kernel
theorem dX9_harm_52 : decode cX9_harm 52 = .ok (.iload_n 3, 1) := by decide +kernel
theorem dX9_harm_53 : decode cX9_harm 53 = .ok (.ireturn, 1) := by decide +kernel
theorem dX9_worthOf_0 : decode cX9_worthOf 0 = .ok (.iconst 0, 1) := by decide +kernel
theorem dX9_worthOf_1 : decode cX9_worthOf 1 = .ok (.istore_n 2, 1) := by decide +kernel
theorem dX9_worthOf_2 : decode cX9_worthOf 2 = .ok (.iconst 0, 1) := by decide +kernel
theorem dX9_worthOf_3 : decode cX9_worthOf 3 = .ok (.istore_n 3, 1) := by decide +kernel
theorem dX9_worthOf_4 : decode cX9_worthOf 4 = .ok (.iload_n 3, 1) := by decide +kernel
theorem dX9_worthOf_5 : decode cX9_worthOf 5 = .ok (.bipush 10, 2) := by decide +kernel
theorem dX9_worthOf_7 : decode cX9_worthOf 7 = .ok (.if_icmp .ge 29, 3) := by decide +kernel
theorem dX9_worthOf_10 : decode cX9_worthOf 10 = .ok (.iload_n 2, 1) := by decide +kernel
theorem dX9_worthOf_11 : decode cX9_worthOf 11 = .ok (.aload_n 0, 1) := by decide +kernel
theorem dX9_worthOf_12 : decode cX9_worthOf 12 = .ok (.iload_n 1, 1) := by decide +kernel
theorem dX9_worthOf_13 : decode cX9_worthOf 13 = .ok (.iload_n 3, 1) := by decide +kernel
theorem dX9_worthOf_14 : decode cX9_worthOf 14 = .ok (.iconst 0, 1) := by decide +kernel
theorem dX9_worthOf_15 : decode cX9_worthOf 15 = .ok (.invokevirtual 190, 3) := by decide +kernel
theorem dX9_worthOf_18 : decode cX9_worthOf 18 = .ok (.aload_n 0, 1) := by decide +kernel
theorem dX9_worthOf_19 : decode cX9_worthOf 19 = .ok (.getfield 81, 3) := by decide +kernel
theorem dX9_worthOf_22 : decode cX9_worthOf 22 = .ok (.iload_n 3, 1) := by decide +kernel
theorem dX9_worthOf_23 : decode cX9_worthOf 23 = .ok (.iaload, 1) := by decide +kernel
theorem dX9_worthOf_24 : decode cX9_worthOf 24 = .ok (.imul, 1) := by decide +kernel
theorem dX9_worthOf_25 : decode cX9_worthOf 25 = .ok (.bipush 100, 2) := by decide +kernel
theorem dX9_worthOf_27 : decode cX9_worthOf 27 = .ok (.idiv, 1) := by decide +kernel
theorem dX9_worthOf_28 : decode cX9_worthOf 28 = .ok (.iadd, 1) := by decide +kernel
theorem dX9_worthOf_29 : decode cX9_worthOf 29 = .ok (.istore_n 2, 1) := by decide +kernel
theorem dX9_worthOf_30 : decode cX9_worthOf 30 = .ok (.iinc 3 1, 3) := by decide +kernel
theorem dX9_worthOf_33 : decode cX9_worthOf 33 = .ok (.goto (-29), 3) := by decide +kernel
theorem dX9_worthOf_36 : decode cX9_worthOf 36 = .ok (.iconst 0, 1) := by decide +kernel
theorem dX9_worthOf_37 : decode cX9_worthOf 37 = .ok (.istore_n 3, 1) := by decide +kernel
theorem dX9_worthOf_38 : decode cX9_worthOf 38 = .ok (.iload_n 3, 1) := by decide +kernel
theorem dX9_worthOf_39 : decode cX9_worthOf 39 = .ok (.aload_n 0, 1) := by decide +kernel
theorem dX9_worthOf_40 : decode cX9_worthOf 40 = .ok (.getfield 120, 3) := by decide +kernel
theorem dX9_worthOf_43 : decode cX9_worthOf 43 = .ok (.if_icmp .ge 28, 3) := by decide +kernel
theorem dX9_worthOf_46 : decode cX9_worthOf 46 = .ok (.aload_n 0, 1) := by decide +kernel
theorem dX9_worthOf_47 : decode cX9_worthOf 47 = .ok (.getfield 114, 3) := by decide +kernel
theorem dX9_worthOf_50 : decode cX9_worthOf 50 = .ok (.iload_n 3, 1) := by decide +kernel
theorem dX9_worthOf_51 : decode cX9_worthOf 51 = .ok (.iaload, 1) := by decide +kernel
theorem dX9_worthOf_52 : decode cX9_worthOf 52 = .ok (.iload_n 1, 1) := by decide +kernel
theorem dX9_worthOf_53 : decode cX9_worthOf 53 = .ok (.if_icmp .ne 12, 3) := by decide +kernel
theorem dX9_worthOf_56 : decode cX9_worthOf 56 = .ok (.iload_n 2, 1) := by decide +kernel
theorem dX9_worthOf_57 : decode cX9_worthOf 57 = .ok (.aload_n 0, 1) := by decide +kernel
theorem dX9_worthOf_58 : decode cX9_worthOf 58 = .ok (.getfield 66, 3) := by decide +kernel
theorem dX9_worthOf_61 : decode cX9_worthOf 61 = .ok (.iload_n 3, 1) := by decide +kernel
theorem dX9_worthOf_62 : decode cX9_worthOf 62 = .ok (.iaload, 1) := by decide +kernel
theorem dX9_worthOf_63 : decode cX9_worthOf 63 = .ok (.isub, 1) := by decide +kernel
theorem dX9_worthOf_64 : decode cX9_worthOf 64 = .ok (.istore_n 2, 1) := by decide +kernel
theorem dX9_worthOf_65 : decode cX9_worthOf 65 = .ok (.iinc 3 1, 3) := by decide +kernel
theorem dX9_worthOf_68 : decode cX9_worthOf 68 = .ok (.goto (-30), 3) := by decide +kernel
theorem dX9_worthOf_71 : decode cX9_worthOf 71 = .ok (.iload_n 2, 1) := by decide +kernel
theorem dX9_worthOf_72 : decode cX9_worthOf 72 = .ok (.ifCond .ge 7, 3) := by decide +kernel
theorem dX9_worthOf_75 : decode cX9_worthOf 75 = .ok (.iconst 0, 1) := by decide +kernel
theorem dX9_worthOf_76 : decode cX9_worthOf 76 = .ok (.goto 4, 3) := by decide +kernel
theorem dX9_worthOf_79 : decode cX9_worthOf 79 = .ok (.iload_n 2, 1) := by decide +kernel
theorem dX9_worthOf_80 : decode cX9_worthOf 80 = .ok (.ireturn, 1) := by decide +kernel
theorem dX9_worth_0 : decode cX9_worth 0 = .ok (.aload_n 0, 1) := by decide +kernel
theorem dX9_worth_1 : decode cX9_worth 1 = .ok (.iload_n 1, 1) := by decide +kernel
theorem dX9_worth_2 : decode cX9_worth 2 = .ok (.invokevirtual 141, 3) := by decide +kernel
theorem dX9_worth_5 : decode cX9_worth 5 = .ok (.ifCond .ne 9, 3) := by decide +kernel
theorem dX9_worth_8 : decode cX9_worth 8 = .ok (.aload_n 0, 1) := by decide +kernel
theorem dX9_worth_9 : decode cX9_worth 9 = .ok (.iconst (-1), 1) := by decide +kernel
theorem dX9_worth_10 : decode cX9_worth 10 = .ok (.invokevirtual 128, 3) := by decide +kernel
theorem dX9_worth_13 : decode cX9_worth 13 = .ok (.ireturn, 1) := by decide +kernel
theorem dX9_worth_14 : decode cX9_worth 14 = .ok (.aload_n 0, 1) := by decide +kernel
theorem dX9_worth_15 : decode cX9_worth 15 = .ok (.aload_n 0, 1) := by decide +kernel
theorem dX9_worth_16 : decode cX9_worth 16 = .ok (.getfield 7, 3) := by decide +kernel
theorem dX9_worth_19 : decode cX9_worth 19 = .ok (.invokevirtual 155, 3) := by decide +kernel
theorem dX9_worth_22 : decode cX9_worth 22 = .ok (.aload_n 0, 1) := by decide +kernel
theorem dX9_worth_23 : decode cX9_worth 23 = .ok (.aload_n 0, 1) := by decide +kernel
theorem dX9_worth_24 : decode cX9_worth 24 = .ok (.getfield 114, 3) := by decide +kernel
theorem dX9_worth_27 : decode cX9_worth 27 = .ok (.iload_n 1, 1) := by decide +kernel
theorem dX9_worth_28 : decode cX9_worth 28 = .ok (.iaload, 1) := by decide +kernel
theorem dX9_worth_29 : decode cX9_worth 29 = .ok (.invokevirtual 195, 3) := by decide +kernel
theorem dX9_worth_32 : decode cX9_worth 32 = .ok (.ireturn, 1) := by decide +kernel
theorem dX9_rule_0 : decode cX9_rule 0 = .ok (.iload_n 1, 1) := by decide +kernel
theorem dX9_rule_1 : decode cX9_rule 1 = .ok (.aload_n 0, 1) := by decide +kernel
theorem dX9_rule_2 : decode cX9_rule 2 = .ok (.getfield 138, 3) := by decide +kernel
theorem dX9_rule_5 : decode cX9_rule 5 = .ok (.if_icmp .lt 17, 3) := by decide +kernel
theorem dX9_rule_8 : decode cX9_rule 8 = .ok (.iload_n 2, 1) := by decide +kernel
theorem dX9_rule_9 : decode cX9_rule 9 = .ok (.ifCond .lt 13, 3) := by decide +kernel
theorem dX9_rule_12 : decode cX9_rule 12 = .ok (.iload_n 3, 1) := by decide +kernel
theorem dX9_rule_13 : decode cX9_rule 13 = .ok (.ifCond .lt 9, 3) := by decide +kernel
theorem dX9_rule_16 : decode cX9_rule 16 = .ok (.iload 4, 2) := by decide +kernel
theorem dX9_rule_18 : decode cX9_rule 18 = .ok (.iconst 1, 1) := by decide +kernel
theorem dX9_rule_19 : decode cX9_rule 19 = .ok (.if_icmp .ge 10, 3) := by decide +kernel
theorem dX9_rule_22 : decode cX9_rule 22 = .ok (.aload_n 0, 1) := by decide +kernel
theorem dX9_rule_23 : decode cX9_rule 23 = .ok (.bipush (-4), 2) := by decide +kernel
theorem dX9_rule_25 : decode cX9_rule 25 = .ok (.invokevirtual 128, 3) := by decide +kernel
theorem dX9_rule_28 : decode cX9_rule 28 = .ok (.ireturn, 1) := by decide +kernel
theorem dX9_rule_29 : decode cX9_rule 29 = .ok (.iload_n 1, 1) := by decide +kernel
theorem dX9_rule_30 : decode cX9_rule 30 = .ok (.sipush 3000, 3) := by decide +kernel
theorem dX9_rule_33 : decode cX9_rule 33 = .ok (.if_icmp .gt 30, 3) := by decide +kernel
theorem dX9_rule_36 : decode cX9_rule 36 = .ok (.iload_n 2, 1) := by decide +kernel
theorem dX9_rule_37 : decode cX9_rule 37 = .ok (.bipush 100, 2) := by decide +kernel
theorem dX9_rule_39 : decode cX9_rule 39 = .ok (.if_icmp .gt 24, 3) := by decide +kernel
theorem dX9_rule_42 : decode cX9_rule 42 = .ok (.iload_n 3, 1) := by decide +kernel
theorem dX9_rule_43 : decode cX9_rule 43 = .ok (.ldc 194, 2) := by decide +kernel
theorem dX9_rule_45 : decode cX9_rule 45 = .ok (.if_icmp .gt 18, 3) := by decide +kernel
theorem dX9_rule_48 : decode cX9_rule 48 = .ok (.iload 4, 2) := by decide +kernel
theorem dX9_rule_50 : decode cX9_rule 50 = .ok (.iconst 5, 1) := by decide +kernel
theorem dX9_rule_51 : decode cX9_rule 51 = .ok (.if_icmp .gt 12, 3) := by decide +kernel
theorem dX9_rule_54 : decode cX9_rule 54 = .ok (.aload_n 0, 1) := by decide +kernel
theorem dX9_rule_55 : decode cX9_rule 55 = .ok (.getfield 198, 3) := by decide +kernel
theorem dX9_rule_58 : decode cX9_rule 58 = .ok (.bipush 20, 2) := by decide +kernel
theorem dX9_rule_60 : decode cX9_rule 60 = .ok (.if_icmp .ne 10, 3) := by decide +kernel
theorem dX9_rule_63 : decode cX9_rule 63 = .ok (.aload_n 0, 1) := by decide +kernel
theorem dX9_rule_64 : decode cX9_rule 64 = .ok (.bipush (-6), 2) := by decide +kernel
theorem dX9_rule_66 : decode cX9_rule 66 = .ok (.invokevirtual 128, 3) := by decide +kernel
theorem dX9_rule_69 : decode cX9_rule 69 = .ok (.ireturn, 1) := by decide +kernel
theorem dX9_rule_70 : decode cX9_rule 70 = .ok (.aload_n 0, 1) := by decide +kernel
theorem dX9_rule_71 : decode cX9_rule 71 = .ok (.getfield 96, 3) := by decide +kernel
theorem dX9_rule_74 : decode cX9_rule 74 = .ok (.aload_n 0, 1) := by decide +kernel
theorem dX9_rule_75 : decode cX9_rule 75 = .ok (.getfield 198, 3) := by decide +kernel
theorem dX9_rule_78 : decode cX9_rule 78 = .ok (.iload_n 1, 1) := by decide +kernel
theorem dX9_rule_79 : decode cX9_rule 79 = .ok (.iastore, 1) := by decide +kernel
theorem dX9_rule_80 : decode cX9_rule 80 = .ok (.aload_n 0, 1) := by decide +kernel
theorem dX9_rule_81 : decode cX9_rule 81 = .ok (.getfield 99, 3) := by decide +kernel
theorem dX9_rule_84 : decode cX9_rule 84 = .ok (.aload_n 0, 1) := by decide +kernel
theorem dX9_rule_85 : decode cX9_rule 85 = .ok (.getfield 198, 3) := by decide +kernel
theorem dX9_rule_88 : decode cX9_rule 88 = .ok (.iload_n 2, 1) := by decide +kernel
theorem dX9_rule_89 : decode cX9_rule 89 = .ok (.iastore, 1) := by decide +kernel
theorem dX9_rule_90 : decode cX9_rule 90 = .ok (.aload_n 0, 1) := by decide +kernel
theorem dX9_rule_91 : decode cX9_rule 91 = .ok (.getfield 102, 3) := by decide +kernel
theorem dX9_rule_94 : decode cX9_rule 94 = .ok (.aload_n 0, 1) := by decide +kernel
theorem dX9_rule_95 : decode cX9_rule 95 = .ok (.getfield 198, 3) := by decide +kernel
theorem dX9_rule_98 : decode cX9_rule 98 = .ok (.iload_n 3, 1) := by decide +kernel
theorem dX9_rule_99 : decode cX9_rule 99 = .ok (.iastore, 1) := by decide +kernel
theorem dX9_rule_100 : decode cX9_rule 100 = .ok (.aload_n 0, 1) := by decide +kernel
theorem dX9_rule_101 : decode cX9_rule 101 = .ok (.getfield 105, 3) := by decide +kernel
theorem dX9_rule_104 : decode cX9_rule 104 = .ok (.aload_n 0, 1) := by decide +kernel
theorem dX9_rule_105 : decode cX9_rule 105 = .ok (.getfield 198, 3) := by decide +kernel
theorem dX9_rule_108 : decode cX9_rule 108 = .ok (.iload 4, 2) := by decide +kernel
theorem dX9_rule_110 : decode cX9_rule 110 = .ok (.iastore, 1) := by decide +kernel
theorem dX9_rule_111 : decode cX9_rule 111 = .ok (.aload_n 0, 1) := by decide +kernel
theorem dX9_rule_112 : decode cX9_rule 112 = .ok (.dup, 1) := by decide +kernel
theorem dX9_rule_113 : decode cX9_rule 113 = .ok (.getfield 198, 3) := by decide +kernel
theorem dX9_rule_116 : decode cX9_rule 116 = .ok (.dup_x1, 1) := by decide +kernel
theorem dX9_rule_117 : decode cX9_rule 117 = .ok (.iconst 1, 1) := by decide +kernel
theorem dX9_rule_118 : decode cX9_rule 118 = .ok (.iadd, 1) := by decide +kernel
theorem dX9_rule_119 : decode cX9_rule 119 = .ok (.putfield 198, 3) := by decide +kernel
theorem dX9_rule_122 : decode cX9_rule 122 = .ok (.ireturn, 1) := by decide +kernel
theorem dX9_ruleFor_0 : decode cX9_ruleFor 0 = .ok (.aload_n 0, 1) := by decide +kernel
theorem dX9_ruleFor_1 : decode cX9_ruleFor 1 = .ok (.getfield 54, 3) := by decide +kernel
theorem dX9_ruleFor_4 : decode cX9_ruleFor 4 = .ok (.aload_n 0, 1) := by decide +kernel
theorem dX9_ruleFor_5 : decode cX9_ruleFor 5 = .ok (.iload_n 1, 1) := by decide +kernel
theorem dX9_ruleFor_6 : decode cX9_ruleFor 6 = .ok (.invokevirtual 162, 3) := by decide +kernel
theorem dX9_ruleFor_9 : decode cX9_ruleFor 9 = .ok (.iaload, 1) := by decide +kernel
theorem dX9_ruleFor_10 : decode cX9_ruleFor 10 = .ok (.istore_n 2, 1) := by decide +kernel
theorem dX9_ruleFor_11 : decode cX9_ruleFor 11 = .ok (.bipush (-9), 2) := by decide +kernel
theorem dX9_ruleFor_13 : decode cX9_ruleFor 13 = .ok (.istore_n 3, 1) := by decide +kernel
theorem dX9_ruleFor_14 : decode cX9_ruleFor 14 = .ok (.iconst 0, 1) := by decide +kernel
theorem dX9_ruleFor_15 : decode cX9_ruleFor 15 = .ok (.istore 4, 2) := by decide +kernel
theorem dX9_ruleFor_17 : decode cX9_ruleFor 17 = .ok (.iload 4, 2) := by decide +kernel
theorem dX9_ruleFor_19 : decode cX9_ruleFor 19 = .ok (.aload_n 0, 1) := by decide +kernel
theorem dX9_ruleFor_20 : decode cX9_ruleFor 20 = .ok (.getfield 198, 3) := by decide +kernel
theorem dX9_ruleFor_23 : decode cX9_ruleFor 23 = .ok (.if_icmp .ge 45, 3) := by decide +kernel
theorem dX9_ruleFor_26 : decode cX9_ruleFor 26 = .ok (.aload_n 0, 1) := by decide +kernel
theorem dX9_ruleFor_27 : decode cX9_ruleFor 27 = .ok (.getfield 96, 3) := by decide +kernel
theorem dX9_ruleFor_30 : decode cX9_ruleFor 30 = .ok (.iload 4, 2) := by decide +kernel
theorem dX9_ruleFor_32 : decode cX9_ruleFor 32 = .ok (.iaload, 1) := by decide +kernel
theorem dX9_ruleFor_33 : decode cX9_ruleFor 33 = .ok (.iload_n 2, 1) := by decide +kernel
theorem dX9_ruleFor_34 : decode cX9_ruleFor 34 = .ok (.if_icmp .gt 28, 3) := by decide +kernel
theorem dX9_ruleFor_37 : decode cX9_ruleFor 37 = .ok (.iload_n 3, 1) := by decide +kernel
theorem dX9_ruleFor_38 : decode cX9_ruleFor 38 = .ok (.bipush (-9), 2) := by decide +kernel
theorem dX9_ruleFor_40 : decode cX9_ruleFor 40 = .ok (.if_icmp .eq 19, 3) := by decide +kernel
theorem dX9_ruleFor_43 : decode cX9_ruleFor 43 = .ok (.aload_n 0, 1) := by decide +kernel
theorem dX9_ruleFor_44 : decode cX9_ruleFor 44 = .ok (.getfield 96, 3) := by decide +kernel
theorem dX9_ruleFor_47 : decode cX9_ruleFor 47 = .ok (.iload 4, 2) := by decide +kernel
theorem dX9_ruleFor_49 : decode cX9_ruleFor 49 = .ok (.iaload, 1) := by decide +kernel
theorem dX9_ruleFor_50 : decode cX9_ruleFor 50 = .ok (.aload_n 0, 1) := by decide +kernel
theorem dX9_ruleFor_51 : decode cX9_ruleFor 51 = .ok (.getfield 96, 3) := by decide +kernel
theorem dX9_ruleFor_54 : decode cX9_ruleFor 54 = .ok (.iload_n 3, 1) := by decide +kernel
theorem dX9_ruleFor_55 : decode cX9_ruleFor 55 = .ok (.iaload, 1) := by decide +kernel
theorem dX9_ruleFor_56 : decode cX9_ruleFor 56 = .ok (.if_icmp .lt 6, 3) := by decide +kernel
theorem dX9_ruleFor_59 : decode cX9_ruleFor 59 = .ok (.iload 4, 2) := by decide +kernel
theorem dX9_ruleFor_61 : decode cX9_ruleFor 61 = .ok (.istore_n 3, 1) := by decide +kernel
theorem dX9_ruleFor_62 : decode cX9_ruleFor 62 = .ok (.iinc 4 1, 3) := by decide +kernel
theorem dX9_ruleFor_65 : decode cX9_ruleFor 65 = .ok (.goto (-48), 3) := by decide +kernel
theorem dX9_ruleFor_68 : decode cX9_ruleFor 68 = .ok (.iload_n 3, 1) := by decide +kernel
theorem dX9_ruleFor_69 : decode cX9_ruleFor 69 = .ok (.ireturn, 1) := by decide +kernel
theorem dX9_ruleOf_0 : decode cX9_ruleOf 0 = .ok (.aload_n 0, 1) := by decide +kernel
theorem dX9_ruleOf_1 : decode cX9_ruleOf 1 = .ok (.iload_n 1, 1) := by decide +kernel
theorem dX9_ruleOf_2 : decode cX9_ruleOf 2 = .ok (.invokevirtual 141, 3) := by decide +kernel
theorem dX9_ruleOf_5 : decode cX9_ruleOf 5 = .ok (.ifCond .ne 9, 3) := by decide +kernel
theorem dX9_ruleOf_8 : decode cX9_ruleOf 8 = .ok (.aload_n 0, 1) := by decide +kernel
theorem dX9_ruleOf_9 : decode cX9_ruleOf 9 = .ok (.iconst (-1), 1) := by decide +kernel
theorem dX9_ruleOf_10 : decode cX9_ruleOf 10 = .ok (.invokevirtual 128, 3) := by decide +kernel
theorem dX9_ruleOf_13 : decode cX9_ruleOf 13 = .ok (.ireturn, 1) := by decide +kernel
theorem dX9_ruleOf_14 : decode cX9_ruleOf 14 = .ok (.aload_n 0, 1) := by decide +kernel
theorem dX9_ruleOf_15 : decode cX9_ruleOf 15 = .ok (.aload_n 0, 1) := by decide +kernel
theorem dX9_ruleOf_16 : decode cX9_ruleOf 16 = .ok (.getfield 7, 3) := by decide +kernel
theorem dX9_ruleOf_19 : decode cX9_ruleOf 19 = .ok (.invokevirtual 155, 3) := by decide +kernel
theorem dX9_ruleOf_22 : decode cX9_ruleOf 22 = .ok (.aload_n 0, 1) := by decide +kernel
theorem dX9_ruleOf_23 : decode cX9_ruleOf 23 = .ok (.aload_n 0, 1) := by decide +kernel
theorem dX9_ruleOf_24 : decode cX9_ruleOf 24 = .ok (.getfield 114, 3) := by decide +kernel
theorem dX9_ruleOf_27 : decode cX9_ruleOf 27 = .ok (.iload_n 1, 1) := by decide +kernel
theorem dX9_ruleOf_28 : decode cX9_ruleOf 28 = .ok (.iaload, 1) := by decide +kernel
theorem dX9_ruleOf_29 : decode cX9_ruleOf 29 = .ok (.invokevirtual 201, 3) := by decide +kernel
theorem dX9_ruleOf_32 : decode cX9_ruleOf 32 = .ok (.ireturn, 1) := by decide +kernel
theorem dX9_pay_0 : decode cX9_pay 0 = .ok (.aload_n 0, 1) := by decide +kernel
theorem dX9_pay_1 : decode cX9_pay 1 = .ok (.iload_n 1, 1) := by decide +kernel
theorem dX9_pay_2 : decode cX9_pay 2 = .ok (.invokevirtual 195, 3) := by decide +kernel
theorem dX9_pay_5 : decode cX9_pay 5 = .ok (.iload_n 2, 1) := by decide +kernel
theorem dX9_pay_6 : decode cX9_pay 6 = .ok (.imul, 1) := by decide +kernel
theorem dX9_pay_7 : decode cX9_pay 7 = .ok (.bipush 100, 2) := by decide +kernel
theorem dX9_pay_9 : decode cX9_pay 9 = .ok (.idiv, 1) := by decide +kernel
theorem dX9_pay_10 : decode cX9_pay 10 = .ok (.istore 4, 2) := by decide +kernel
theorem dX9_pay_12 : decode cX9_pay 12 = .ok (.iload 4, 2) := by decide +kernel
theorem dX9_pay_14 : decode cX9_pay 14 = .ok (.iload_n 3, 1) := by decide +kernel
theorem dX9_pay_15 : decode cX9_pay 15 = .ok (.if_icmp .le 7, 3) := by decide +kernel
theorem dX9_pay_18 : decode cX9_pay 18 = .ok (.iload_n 3, 1) := by decide +kernel
theorem dX9_pay_19 : decode cX9_pay 19 = .ok (.goto 5, 3) := by decide +kernel
theorem dX9_pay_22 : decode cX9_pay 22 = .ok (.iload 4, 2) := by decide +kernel
theorem dX9_pay_24 : decode cX9_pay 24 = .ok (.ireturn, 1) := by decide +kernel
theorem dX9_paysToday_0 : decode cX9_paysToday 0 = .ok (.aload_n 0, 1) := by decide +kernel
theorem dX9_paysToday_1 : decode cX9_paysToday 1 = .ok (.getfield 138, 3) := by decide +kernel
theorem dX9_paysToday_4 : decode cX9_paysToday 4 = .ok (.aload_n 0, 1) := by decide +kernel
theorem dX9_paysToday_5 : decode cX9_paysToday 5 = .ok (.getfield 60, 3) := by decide +kernel
theorem dX9_paysToday_8 : decode cX9_paysToday 8 = .ok (.iload_n 1, 1) := by decide +kernel
theorem dX9_paysToday_9 : decode cX9_paysToday 9 = .ok (.iaload, 1) := by decide +kernel
theorem dX9_paysToday_10 : decode cX9_paysToday 10 = .ok (.isub, 1) := by decide +kernel
theorem dX9_paysToday_11 : decode cX9_paysToday 11 = .ok (.istore_n 2, 1) := by decide +kernel
theorem dX9_paysToday_12 : decode cX9_paysToday 12 = .ok (.aload_n 0, 1) := by decide +kernel
theorem dX9_paysToday_13 : decode cX9_paysToday 13 = .ok (.getfield 57, 3) := by decide +kernel
theorem dX9_paysToday_16 : decode cX9_paysToday 16 = .ok (.iload_n 1, 1) := by decide +kernel
theorem dX9_paysToday_17 : decode cX9_paysToday 17 = .ok (.iaload, 1) := by decide +kernel
theorem dX9_paysToday_18 : decode cX9_paysToday 18 = .ok (.iconst 1, 1) := by decide +kernel
theorem dX9_paysToday_19 : decode cX9_paysToday 19 = .ok (.if_icmp .ne 15, 3) := by decide +kernel
theorem dX9_paysToday_22 : decode cX9_paysToday 22 = .ok (.iload_n 2, 1) := by decide +kernel
theorem dX9_paysToday_23 : decode cX9_paysToday 23 = .ok (.ifCond .eq 11, 3) := by decide +kernel
theorem dX9_paysToday_26 : decode cX9_paysToday 26 = .ok (.iload_n 2, 1) := by decide +kernel
theorem dX9_paysToday_27 : decode cX9_paysToday 27 = .ok (.sipush 360, 3) := by decide +kernel
theorem dX9_paysToday_30 : decode cX9_paysToday 30 = .ok (.irem, 1) := by decide +kernel
theorem dX9_paysToday_31 : decode cX9_paysToday 31 = .ok (.ifCond .eq 5, 3) := by decide +kernel
theorem dX9_paysToday_34 : decode cX9_paysToday 34 = .ok (.iconst 0, 1) := by decide +kernel
theorem dX9_paysToday_35 : decode cX9_paysToday 35 = .ok (.ireturn, 1) := by decide +kernel
theorem dX9_paysToday_36 : decode cX9_paysToday 36 = .ok (.aload_n 0, 1) := by decide +kernel
theorem dX9_paysToday_37 : decode cX9_paysToday 37 = .ok (.aload_n 0, 1) := by decide +kernel
theorem dX9_paysToday_38 : decode cX9_paysToday 38 = .ok (.getfield 114, 3) := by decide +kernel
theorem dX9_paysToday_41 : decode cX9_paysToday 41 = .ok (.iload_n 1, 1) := by decide +kernel
theorem dX9_paysToday_42 : decode cX9_paysToday 42 = .ok (.iaload, 1) := by decide +kernel
theorem dX9_paysToday_43 : decode cX9_paysToday 43 = .ok (.invokevirtual 201, 3) := by decide +kernel
theorem dX9_paysToday_46 : decode cX9_paysToday 46 = .ok (.istore_n 3, 1) := by decide +kernel
theorem dX9_paysToday_47 : decode cX9_paysToday 47 = .ok (.iload_n 3, 1) := by decide +kernel
theorem dX9_paysToday_48 : decode cX9_paysToday 48 = .ok (.bipush (-9), 2) := by decide +kernel
theorem dX9_paysToday_50 : decode cX9_paysToday 50 = .ok (.if_icmp .eq 17, 3) := by decide +kernel
theorem dX9_paysToday_53 : decode cX9_paysToday 53 = .ok (.iload_n 2, 1) := by decide +kernel
theorem dX9_paysToday_54 : decode cX9_paysToday 54 = .ok (.sipush 360, 3) := by decide +kernel
theorem dX9_paysToday_57 : decode cX9_paysToday 57 = .ok (.idiv, 1) := by decide +kernel
theorem dX9_paysToday_58 : decode cX9_paysToday 58 = .ok (.aload_n 0, 1) := by decide +kernel
theorem dX9_paysToday_59 : decode cX9_paysToday 59 = .ok (.getfield 105, 3) := by decide +kernel
theorem dX9_paysToday_62 : decode cX9_paysToday 62 = .ok (.iload_n 3, 1) := by decide +kernel
theorem dX9_paysToday_63 : decode cX9_paysToday 63 = .ok (.iaload, 1) := by decide +kernel
theorem dX9_paysToday_64 : decode cX9_paysToday 64 = .ok (.if_icmp .le 5, 3) := by decide +kernel
theorem dX9_paysToday_67 : decode cX9_paysToday 67 = .ok (.iconst 0, 1) := by decide +kernel
theorem dX9_paysToday_68 : decode cX9_paysToday 68 = .ok (.ireturn, 1) := by decide +kernel
theorem dX9_paysToday_69 : decode cX9_paysToday 69 = .ok (.aload_n 0, 1) := by decide +kernel
theorem dX9_paysToday_70 : decode cX9_paysToday 70 = .ok (.aload_n 0, 1) := by decide +kernel
theorem dX9_paysToday_71 : decode cX9_paysToday 71 = .ok (.getfield 114, 3) := by decide +kernel
theorem dX9_paysToday_74 : decode cX9_paysToday 74 = .ok (.iload_n 1, 1) := by decide +kernel
theorem dX9_paysToday_75 : decode cX9_paysToday 75 = .ok (.iaload, 1) := by decide +kernel
theorem dX9_paysToday_76 : decode cX9_paysToday 76 = .ok (.aload_n 0, 1) := by decide +kernel
theorem dX9_paysToday_77 : decode cX9_paysToday 77 = .ok (.getfield 99, 3) := by decide +kernel
theorem dX9_paysToday_80 : decode cX9_paysToday 80 = .ok (.iload_n 3, 1) := by decide +kernel
theorem dX9_paysToday_81 : decode cX9_paysToday 81 = .ok (.iaload, 1) := by decide +kernel
theorem dX9_paysToday_82 : decode cX9_paysToday 82 = .ok (.aload_n 0, 1) := by decide +kernel
theorem dX9_paysToday_83 : decode cX9_paysToday 83 = .ok (.getfield 102, 3) := by decide +kernel
theorem dX9_paysToday_86 : decode cX9_paysToday 86 = .ok (.iload_n 3, 1) := by decide +kernel
theorem dX9_paysToday_87 : decode cX9_paysToday 87 = .ok (.iaload, 1) := by decide +kernel
theorem dX9_paysToday_88 : decode cX9_paysToday 88 = .ok (.invokevirtual 204, 3) := by decide +kernel
theorem dX9_paysToday_91 : decode cX9_paysToday 91 = .ok (.aload_n 0, 1) := by decide +kernel
theorem dX9_paysToday_92 : decode cX9_paysToday 92 = .ok (.iload_n 1, 1) := by decide +kernel
theorem dX9_paysToday_93 : decode cX9_paysToday 93 = .ok (.invokevirtual 165, 3) := by decide +kernel
theorem dX9_paysToday_96 : decode cX9_paysToday 96 = .ok (.imul, 1) := by decide +kernel
theorem dX9_paysToday_97 : decode cX9_paysToday 97 = .ok (.sipush 1000, 3) := by decide +kernel
theorem dX9_paysToday_100 : decode cX9_paysToday 100 = .ok (.idiv, 1) := by decide +kernel
theorem dX9_paysToday_101 : decode cX9_paysToday 101 = .ok (.istore 4, 2) := by decide +kernel
theorem dX9_paysToday_103 : decode cX9_paysToday 103 = .ok (.iload 4, 2) := by decide +kernel
theorem dX9_paysToday_105 : decode cX9_paysToday 105 = .ok (.iconst 1, 1) := by decide +kernel
theorem dX9_paysToday_106 : decode cX9_paysToday 106 = .ok (.aload_n 0, 1) := by decide +kernel
theorem dX9_paysToday_107 : decode cX9_paysToday 107 = .ok (.getfield 69, 3) := by decide +kernel
theorem dX9_paysToday_110 : decode cX9_paysToday 110 = .ok (.iload_n 1, 1) := by decide +kernel
theorem dX9_paysToday_111 : decode cX9_paysToday 111 = .ok (.iaload, 1) := by decide +kernel
theorem dX9_paysToday_112 : decode cX9_paysToday 112 = .ok (.iadd, 1) := by decide +kernel
theorem dX9_paysToday_113 : decode cX9_paysToday 113 = .ok (.idiv, 1) := by decide +kernel
theorem dX9_paysToday_114 : decode cX9_paysToday 114 = .ok (.istore 5, 2) := by decide +kernel
theorem dX9_paysToday_116 : decode cX9_paysToday 116 = .ok (.iconst 0, 1) := by decide +kernel
theorem dX9_paysToday_117 : decode cX9_paysToday 117 = .ok (.istore 6, 2) := by decide +kernel
theorem dX9_paysToday_119 : decode cX9_paysToday 119 = .ok (.iload 6, 2) := by decide +kernel
theorem dX9_paysToday_121 : decode cX9_paysToday 121 = .ok (.aload_n 0, 1) := by decide +kernel
theorem dX9_paysToday_122 : decode cX9_paysToday 122 = .ok (.getfield 69, 3) := by decide +kernel
theorem dX9_paysToday_125 : decode cX9_paysToday 125 = .ok (.iload_n 1, 1) := by decide +kernel
theorem dX9_paysToday_126 : decode cX9_paysToday 126 = .ok (.iaload, 1) := by decide +kernel
theorem dX9_paysToday_127 : decode cX9_paysToday 127 = .ok (.if_icmp .ge 31, 3) := by decide +kernel
theorem dX9_paysToday_130 : decode cX9_paysToday 130 = .ok (.aload_n 0, 1) := by decide +kernel
theorem dX9_paysToday_131 : decode cX9_paysToday 131 = .ok (.getfield 29, 3) := by decide +kernel
theorem dX9_paysToday_134 : decode cX9_paysToday 134 = .ok (.aload_n 0, 1) := by decide +kernel
theorem dX9_paysToday_135 : decode cX9_paysToday 135 = .ok (.getfield 72, 3) := by decide +kernel
theorem dX9_paysToday_138 : decode cX9_paysToday 138 = .ok (.bipush 6, 2) := by decide +kernel
theorem dX9_paysToday_140 : decode cX9_paysToday 140 = .ok (.iload_n 1, 1) := by decide +kernel
theorem dX9_paysToday_141 : decode cX9_paysToday 141 = .ok (.imul, 1) := by decide +kernel
theorem dX9_paysToday_142 : decode cX9_paysToday 142 = .ok (.iload 6, 2) := by decide +kernel
theorem dX9_paysToday_144 : decode cX9_paysToday 144 = .ok (.iadd, 1) := by decide +kernel
theorem dX9_paysToday_145 : decode cX9_paysToday 145 = .ok (.iaload, 1) := by decide +kernel
theorem dX9_paysToday_146 : decode cX9_paysToday 146 = .ok (.dup2, 1) := by decide +kernel
theorem dX9_paysToday_147 : decode cX9_paysToday 147 = .ok (.iaload, 1) := by decide +kernel
theorem dX9_paysToday_148 : decode cX9_paysToday 148 = .ok (.iload 5, 2) := by decide +kernel
theorem dX9_paysToday_150 : decode cX9_paysToday 150 = .ok (.iadd, 1) := by decide +kernel
theorem dX9_paysToday_151 : decode cX9_paysToday 151 = .ok (.iastore, 1) := by decide +kernel
theorem dX9_paysToday_152 : decode cX9_paysToday 152 = .ok (.iinc 6 1, 3) := by decide +kernel
theorem dX9_paysToday_155 : decode cX9_paysToday 155 = .ok (.goto (-36), 3) := by decide +kernel
theorem dX9_paysToday_158 : decode cX9_paysToday 158 = .ok (.aload_n 0, 1) := by decide +kernel
theorem dX9_paysToday_159 : decode cX9_paysToday 159 = .ok (.getfield 29, 3) := by decide +kernel
theorem dX9_paysToday_162 : decode cX9_paysToday 162 = .ok (.aload_n 0, 1) := by decide +kernel
theorem dX9_paysToday_163 : decode cX9_paysToday 163 = .ok (.getfield 42, 3) := by decide +kernel
theorem dX9_paysToday_166 : decode cX9_paysToday 166 = .ok (.iload_n 1, 1) := by decide +kernel
theorem dX9_paysToday_167 : decode cX9_paysToday 167 = .ok (.iaload, 1) := by decide +kernel
theorem dX9_paysToday_168 : decode cX9_paysToday 168 = .ok (.dup2, 1) := by decide +kernel
theorem dX9_paysToday_169 : decode cX9_paysToday 169 = .ok (.iaload, 1) := by decide +kernel
theorem dX9_paysToday_170 : decode cX9_paysToday 170 = .ok (.iload 4, 2) := by decide +kernel
theorem dX9_paysToday_172 : decode cX9_paysToday 172 = .ok (.iload 5, 2) := by decide +kernel
theorem dX9_paysToday_174 : decode cX9_paysToday 174 = .ok (.aload_n 0, 1) := by decide +kernel
theorem dX9_paysToday_175 : decode cX9_paysToday 175 = .ok (.getfield 69, 3) := by decide +kernel
theorem dX9_paysToday_178 : decode cX9_paysToday 178 = .ok (.iload_n 1, 1) := by decide +kernel
theorem dX9_paysToday_179 : decode cX9_paysToday 179 = .ok (.iaload, 1) := by decide +kernel
theorem dX9_paysToday_180 : decode cX9_paysToday 180 = .ok (.imul, 1) := by decide +kernel
theorem dX9_paysToday_181 : decode cX9_paysToday 181 = .ok (.isub, 1) := by decide +kernel
theorem dX9_paysToday_182 : decode cX9_paysToday 182 = .ok (.iadd, 1) := by decide +kernel
theorem dX9_paysToday_183 : decode cX9_paysToday 183 = .ok (.iastore, 1) := by decide +kernel
theorem dX9_paysToday_184 : decode cX9_paysToday 184 = .ok (.aload_n 0, 1) := by decide +kernel
theorem dX9_paysToday_185 : decode cX9_paysToday 185 = .ok (.getfield 63, 3) := by decide +kernel
theorem dX9_paysToday_188 : decode cX9_paysToday 188 = .ok (.iload_n 1, 1) := by decide +kernel
theorem dX9_paysToday_189 : decode cX9_paysToday 189 = .ok (.dup2, 1) := by decide +kernel
theorem dX9_paysToday_190 : decode cX9_paysToday 190 = .ok (.iaload, 1) := by decide +kernel
theorem dX9_paysToday_191 : decode cX9_paysToday 191 = .ok (.iload 4, 2) := by decide +kernel
theorem dX9_paysToday_193 : decode cX9_paysToday 193 = .ok (.iadd, 1) := by decide +kernel
theorem dX9_paysToday_194 : decode cX9_paysToday 194 = .ok (.iastore, 1) := by decide +kernel
theorem dX9_paysToday_195 : decode cX9_paysToday 195 = .ok (.aload_n 0, 1) := by decide +kernel
theorem dX9_paysToday_196 : decode cX9_paysToday 196 = .ok (.dup, 1) := by decide +kernel
theorem dX9_paysToday_197 : decode cX9_paysToday 197 = .ok (.getfield 207, 3) := by decide +kernel
theorem dX9_paysToday_200 : decode cX9_paysToday 200 = .ok (.iload 4, 2) := by decide +kernel
theorem dX9_paysToday_202 : decode cX9_paysToday 202 = .ok (.iadd, 1) := by decide +kernel
theorem dX9_paysToday_203 : decode cX9_paysToday 203 = .ok (.putfield 207, 3) := by decide +kernel
theorem dX9_paysToday_206 : decode cX9_paysToday 206 = .ok (.iload 4, 2) := by decide +kernel
theorem dX9_paysToday_208 : decode cX9_paysToday 208 = .ok (.ireturn, 1) := by decide +kernel
theorem dX9_days_0 : decode cX9_days 0 = .ok (.iload_n 1, 1) := by decide +kernel
theorem dX9_days_1 : decode cX9_days 1 = .ok (.iconst 1, 1) := by decide +kernel
theorem dX9_days_2 : decode cX9_days 2 = .ok (.if_icmp .ge 10, 3) := by decide +kernel
theorem dX9_days_5 : decode cX9_days 5 = .ok (.aload_n 0, 1) := by decide +kernel
theorem dX9_days_6 : decode cX9_days 6 = .ok (.bipush (-4), 2) := by decide +kernel
theorem dX9_days_8 : decode cX9_days 8 = .ok (.invokevirtual 128, 3) := by decide +kernel
theorem dX9_days_11 : decode cX9_days 11 = .ok (.ireturn, 1) := by decide +kernel
theorem dX9_days_12 : decode cX9_days 12 = .ok (.iload_n 1, 1) := by decide +kernel
theorem dX9_days_13 : decode cX9_days 13 = .ok (.sipush 3000, 3) := by decide +kernel
theorem dX9_days_16 : decode cX9_days 16 = .ok (.aload_n 0, 1) := by decide +kernel
theorem dX9_days_17 : decode cX9_days 17 = .ok (.getfield 138, 3) := by decide +kernel
theorem dX9_days_20 : decode cX9_days 20 = .ok (.isub, 1) := by decide +kernel
theorem dX9_days_21 : decode cX9_days 21 = .ok (.if_icmp .le 10, 3) := by decide +kernel
theorem dX9_days_24 : decode cX9_days 24 = .ok (.aload_n 0, 1) := by decide +kernel
theorem dX9_days_25 : decode cX9_days 25 = .ok (.bipush (-6), 2) := by decide +kernel
theorem dX9_days_27 : decode cX9_days 27 = .ok (.invokevirtual 128, 3) := by decide +kernel
theorem dX9_days_30 : decode cX9_days 30 = .ok (.ireturn, 1) := by decide +kernel
theorem dX9_days_31 : decode cX9_days 31 = .ok (.aload_n 0, 1) := by decide +kernel
theorem dX9_days_32 : decode cX9_days 32 = .ok (.aload_n 0, 1) := by decide +kernel
theorem dX9_days_33 : decode cX9_days 33 = .ok (.getfield 7, 3) := by decide +kernel
theorem dX9_days_36 : decode cX9_days 36 = .ok (.invokevirtual 155, 3) := by decide +kernel
theorem dX9_days_39 : decode cX9_days 39 = .ok (.iconst 0, 1) := by decide +kernel
theorem dX9_days_40 : decode cX9_days 40 = .ok (.istore_n 2, 1) := by decide +kernel
theorem dX9_days_41 : decode cX9_days 41 = .ok (.iconst 0, 1) := by decide +kernel
theorem dX9_days_42 : decode cX9_days 42 = .ok (.istore_n 3, 1) := by decide +kernel
theorem dX9_days_43 : decode cX9_days 43 = .ok (.iload_n 3, 1) := by decide +kernel
theorem dX9_days_44 : decode cX9_days 44 = .ok (.iload_n 1, 1) := by decide +kernel
theorem dX9_days_45 : decode cX9_days 45 = .ok (.if_icmp .ge 46, 3) := by decide +kernel
theorem dX9_days_48 : decode cX9_days 48 = .ok (.aload_n 0, 1) := by decide +kernel
theorem dX9_days_49 : decode cX9_days 49 = .ok (.dup, 1) := by decide +kernel
theorem dX9_days_50 : decode cX9_days 50 = .ok (.getfield 138, 3) := by decide +kernel
theorem dX9_days_53 : decode cX9_days 53 = .ok (.iconst 1, 1) := by decide +kernel
theorem dX9_days_54 : decode cX9_days 54 = .ok (.iadd, 1) := by decide +kernel
theorem dX9_days_55 : decode cX9_days 55 = .ok (.putfield 138, 3) := by decide +kernel
theorem dX9_days_58 : decode cX9_days 58 = .ok (.iconst 0, 1) := by decide +kernel
theorem dX9_days_59 : decode cX9_days 59 = .ok (.istore 4, 2) := by decide +kernel
theorem dX9_days_61 : decode cX9_days 61 = .ok (.iload 4, 2) := by decide +kernel
theorem dX9_days_63 : decode cX9_days 63 = .ok (.aload_n 0, 1) := by decide +kernel
theorem dX9_days_64 : decode cX9_days 64 = .ok (.getfield 120, 3) := by decide +kernel
theorem dX9_days_67 : decode cX9_days 67 = .ok (.if_icmp .ge 18, 3) := by decide +kernel
theorem dX9_days_70 : decode cX9_days 70 = .ok (.iload_n 2, 1) := by decide +kernel
theorem dX9_days_71 : decode cX9_days 71 = .ok (.aload_n 0, 1) := by decide +kernel
theorem dX9_days_72 : decode cX9_days 72 = .ok (.iload 4, 2) := by decide +kernel
theorem dX9_days_74 : decode cX9_days 74 = .ok (.invokevirtual 210, 3) := by decide +kernel
theorem dX9_days_77 : decode cX9_days 77 = .ok (.iadd, 1) := by decide +kernel
theorem dX9_days_78 : decode cX9_days 78 = .ok (.istore_n 2, 1) := by decide +kernel
theorem dX9_days_79 : decode cX9_days 79 = .ok (.iinc 4 1, 3) := by decide +kernel
theorem dX9_days_82 : decode cX9_days 82 = .ok (.goto (-21), 3) := by decide +kernel
theorem dX9_days_85 : decode cX9_days 85 = .ok (.iinc 3 1, 3) := by decide +kernel
theorem dX9_days_88 : decode cX9_days 88 = .ok (.goto (-45), 3) := by decide +kernel
theorem dX9_days_91 : decode cX9_days 91 = .ok (.iload_n 2, 1) := by decide +kernel
theorem dX9_days_92 : decode cX9_days 92 = .ok (.ireturn, 1) := by decide +kernel
theorem dX9_work_0 : decode cX9_work 0 = .ok (.iload_n 1, 1) := by decide +kernel
theorem dX9_work_1 : decode cX9_work 1 = .ok (.invokestatic 124, 3) := by decide +kernel
theorem dX9_work_4 : decode cX9_work 4 = .ok (.ifCond .eq 10, 3) := by decide +kernel
theorem dX9_work_7 : decode cX9_work 7 = .ok (.iload_n 2, 1) := by decide +kernel
theorem dX9_work_8 : decode cX9_work 8 = .ok (.invokestatic 135, 3) := by decide +kernel
theorem dX9_work_11 : decode cX9_work 11 = .ok (.ifCond .ne 9, 3) := by decide +kernel
theorem dX9_work_14 : decode cX9_work 14 = .ok (.aload_n 0, 1) := by decide +kernel
theorem dX9_work_15 : decode cX9_work 15 = .ok (.iconst (-1), 1) := by decide +kernel
theorem dX9_work_16 : decode cX9_work 16 = .ok (.invokevirtual 128, 3) := by decide +kernel
theorem dX9_work_19 : decode cX9_work 19 = .ok (.ireturn, 1) := by decide +kernel
theorem dX9_work_20 : decode cX9_work 20 = .ok (.aload_n 0, 1) := by decide +kernel
theorem dX9_work_21 : decode cX9_work 21 = .ok (.getfield 213, 3) := by decide +kernel
theorem dX9_work_24 : decode cX9_work 24 = .ok (.bipush 20, 2) := by decide +kernel
theorem dX9_work_26 : decode cX9_work 26 = .ok (.if_icmp .ne 10, 3) := by decide +kernel
theorem dX9_work_29 : decode cX9_work 29 = .ok (.aload_n 0, 1) := by decide +kernel
theorem dX9_work_30 : decode cX9_work 30 = .ok (.bipush (-6), 2) := by decide +kernel
theorem dX9_work_32 : decode cX9_work 32 = .ok (.invokevirtual 128, 3) := by decide +kernel
theorem dX9_work_35 : decode cX9_work 35 = .ok (.ireturn, 1) := by decide +kernel
theorem dX9_work_36 : decode cX9_work 36 = .ok (.bipush (-9), 2) := by decide +kernel
theorem dX9_work_38 : decode cX9_work 38 = .ok (.istore_n 3, 1) := by decide +kernel
theorem dX9_work_39 : decode cX9_work 39 = .ok (.iconst 0, 1) := by decide +kernel
theorem dX9_work_40 : decode cX9_work 40 = .ok (.istore 4, 2) := by decide +kernel
theorem dX9_work_42 : decode cX9_work 42 = .ok (.iload 4, 2) := by decide +kernel
theorem dX9_work_44 : decode cX9_work 44 = .ok (.aload_n 0, 1) := by decide +kernel
theorem dX9_work_45 : decode cX9_work 45 = .ok (.getfield 120, 3) := by decide +kernel
theorem dX9_work_48 : decode cX9_work 48 = .ok (.if_icmp .ge 114, 3) := by decide +kernel
theorem dX9_work_51 : decode cX9_work 51 = .ok (.aload_n 0, 1) := by decide +kernel
theorem dX9_work_52 : decode cX9_work 52 = .ok (.getfield 57, 3) := by decide +kernel
theorem dX9_work_55 : decode cX9_work 55 = .ok (.iload 4, 2) := by decide +kernel
theorem dX9_work_57 : decode cX9_work 57 = .ok (.iaload, 1) := by decide +kernel
theorem dX9_work_58 : decode cX9_work 58 = .ok (.iconst 2, 1) := by decide +kernel
theorem dX9_work_59 : decode cX9_work 59 = .ok (.if_icmp .ne 97, 3) := by decide +kernel
theorem dX9_work_62 : decode cX9_work 62 = .ok (.aload_n 0, 1) := by decide +kernel
theorem dX9_work_63 : decode cX9_work 63 = .ok (.getfield 45, 3) := by decide +kernel
theorem dX9_work_66 : decode cX9_work 66 = .ok (.iload 4, 2) := by decide +kernel
theorem dX9_work_68 : decode cX9_work 68 = .ok (.iaload, 1) := by decide +kernel
theorem dX9_work_69 : decode cX9_work 69 = .ok (.iload_n 1, 1) := by decide +kernel
theorem dX9_work_70 : decode cX9_work 70 = .ok (.if_icmp .eq 6, 3) := by decide +kernel
theorem dX9_work_73 : decode cX9_work 73 = .ok (.goto 83, 3) := by decide +kernel
theorem dX9_work_76 : decode cX9_work 76 = .ok (.aload_n 0, 1) := by decide +kernel
theorem dX9_work_77 : decode cX9_work 77 = .ok (.getfield 48, 3) := by decide +kernel
theorem dX9_work_80 : decode cX9_work 80 = .ok (.iload 4, 2) := by decide +kernel
theorem dX9_work_82 : decode cX9_work 82 = .ok (.iaload, 1) := by decide +kernel
theorem dX9_work_83 : decode cX9_work 83 = .ok (.iload_n 2, 1) := by decide +kernel
theorem dX9_work_84 : decode cX9_work 84 = .ok (.invokestatic 151, 3) := by decide +kernel
theorem dX9_work_87 : decode cX9_work 87 = .ok (.istore 5, 2) := by decide +kernel
theorem dX9_work_89 : decode cX9_work 89 = .ok (.iload 5, 2) := by decide +kernel
theorem dX9_work_91 : decode cX9_work 91 = .ok (.aload_n 0, 1) := by decide +kernel
theorem dX9_work_92 : decode cX9_work 92 = .ok (.getfield 7, 3) := by decide +kernel
theorem dX9_work_95 : decode cX9_work 95 = .ok (.if_icmp .ge 6, 3) := by decide +kernel
theorem dX9_work_98 : decode cX9_work 98 = .ok (.goto 58, 3) := by decide +kernel
theorem dX9_work_101 : decode cX9_work 101 = .ok (.iload_n 3, 1) := by decide +kernel
theorem dX9_work_102 : decode cX9_work 102 = .ok (.bipush (-9), 2) := by decide +kernel
theorem dX9_work_104 : decode cX9_work 104 = .ok (.if_icmp .ne 7, 3) := by decide +kernel
theorem dX9_work_107 : decode cX9_work 107 = .ok (.iconst 0, 1) := by decide +kernel
theorem dX9_work_108 : decode cX9_work 108 = .ok (.goto 13, 3) := by decide +kernel
theorem dX9_work_111 : decode cX9_work 111 = .ok (.aload_n 0, 1) := by decide +kernel
theorem dX9_work_112 : decode cX9_work 112 = .ok (.getfield 48, 3) := by decide +kernel
theorem dX9_work_115 : decode cX9_work 115 = .ok (.iload_n 3, 1) := by decide +kernel
theorem dX9_work_116 : decode cX9_work 116 = .ok (.iaload, 1) := by decide +kernel
theorem dX9_work_117 : decode cX9_work 117 = .ok (.iload_n 2, 1) := by decide +kernel
theorem dX9_work_118 : decode cX9_work 118 = .ok (.invokestatic 151, 3) := by decide +kernel
theorem dX9_work_121 : decode cX9_work 121 = .ok (.istore 6, 2) := by decide +kernel
theorem dX9_work_123 : decode cX9_work 123 = .ok (.iload_n 3, 1) := by decide +kernel
theorem dX9_work_124 : decode cX9_work 124 = .ok (.bipush (-9), 2) := by decide +kernel
theorem dX9_work_126 : decode cX9_work 126 = .ok (.if_icmp .eq 27, 3) := by decide +kernel
theorem dX9_work_129 : decode cX9_work 129 = .ok (.iload 5, 2) := by decide +kernel
theorem dX9_work_131 : decode cX9_work 131 = .ok (.iload 6, 2) := by decide +kernel
theorem dX9_work_133 : decode cX9_work 133 = .ok (.if_icmp .gt 20, 3) := by decide +kernel
theorem dX9_work_136 : decode cX9_work 136 = .ok (.iload 5, 2) := by decide +kernel
theorem dX9_work_138 : decode cX9_work 138 = .ok (.iload 6, 2) := by decide +kernel
theorem dX9_work_140 : decode cX9_work 140 = .ok (.if_icmp .ne 16, 3) := by decide +kernel
theorem dX9_work_143 : decode cX9_work 143 = .ok (.aload_n 0, 1) := by decide +kernel
theorem dX9_work_144 : decode cX9_work 144 = .ok (.iload 4, 2) := by decide +kernel
theorem dX9_work_146 : decode cX9_work 146 = .ok (.iload_n 3, 1) := by decide +kernel
theorem dX9_work_147 : decode cX9_work 147 = .ok (.invokevirtual 159, 3) := by decide +kernel
theorem dX9_work_150 : decode cX9_work 150 = .ok (.ifCond .eq 6, 3) := by decide +kernel
theorem dX9_work_153 : decode cX9_work 153 = .ok (.iload 4, 2) := by decide +kernel
theorem dX9_work_155 : decode cX9_work 155 = .ok (.istore_n 3, 1) := by decide +kernel
theorem dX9_work_156 : decode cX9_work 156 = .ok (.iinc 4 1, 3) := by decide +kernel
theorem dX9_work_159 : decode cX9_work 159 = .ok (.goto (-117), 3) := by decide +kernel
theorem dX9_work_162 : decode cX9_work 162 = .ok (.aload_n 0, 1) := by decide +kernel
theorem dX9_work_163 : decode cX9_work 163 = .ok (.getfield 108, 3) := by decide +kernel
theorem dX9_work_166 : decode cX9_work 166 = .ok (.aload_n 0, 1) := by decide +kernel
theorem dX9_work_167 : decode cX9_work 167 = .ok (.dup, 1) := by decide +kernel
theorem dX9_work_168 : decode cX9_work 168 = .ok (.getfield 213, 3) := by decide +kernel
theorem dX9_work_171 : decode cX9_work 171 = .ok (.dup_x1, 1) := by decide +kernel
theorem dX9_work_172 : decode cX9_work 172 = .ok (.iconst 1, 1) := by decide +kernel
theorem dX9_work_173 : decode cX9_work 173 = .ok (.iadd, 1) := by decide +kernel
theorem dX9_work_174 : decode cX9_work 174 = .ok (.putfield 213, 3) := by decide +kernel
theorem dX9_work_177 : decode cX9_work 177 = .ok (.iload_n 3, 1) := by decide +kernel
theorem dX9_work_178 : decode cX9_work 178 = .ok (.iastore, 1) := by decide +kernel
theorem dX9_work_179 : decode cX9_work 179 = .ok (.iload_n 3, 1) := by decide +kernel
theorem dX9_work_180 : decode cX9_work 180 = .ok (.bipush (-9), 2) := by decide +kernel
theorem dX9_work_182 : decode cX9_work 182 = .ok (.if_icmp .eq 10, 3) := by decide +kernel
theorem dX9_work_185 : decode cX9_work 185 = .ok (.aload_n 0, 1) := by decide +kernel
theorem dX9_work_186 : decode cX9_work 186 = .ok (.getfield 75, 3) := by decide +kernel
theorem dX9_work_189 : decode cX9_work 189 = .ok (.iload_n 3, 1) := by decide +kernel
theorem dX9_work_190 : decode cX9_work 190 = .ok (.iconst 1, 1) := by decide +kernel
theorem dX9_work_191 : decode cX9_work 191 = .ok (.bastore, 1) := by decide +kernel
theorem dX9_work_192 : decode cX9_work 192 = .ok (.iload_n 3, 1) := by decide +kernel
theorem dX9_work_193 : decode cX9_work 193 = .ok (.ireturn, 1) := by decide +kernel
theorem dX9_ledBack_0 : decode cX9_ledBack 0 = .ok (.iload_n 1, 1) := by decide +kernel
theorem dX9_ledBack_1 : decode cX9_ledBack 1 = .ok (.ifCond .lt 20, 3) := by decide +kernel
theorem dX9_ledBack_4 : decode cX9_ledBack 4 = .ok (.iload_n 1, 1) := by decide +kernel
theorem dX9_ledBack_5 : decode cX9_ledBack 5 = .ok (.aload_n 0, 1) := by decide +kernel
theorem dX9_ledBack_6 : decode cX9_ledBack 6 = .ok (.getfield 213, 3) := by decide +kernel
theorem dX9_ledBack_9 : decode cX9_ledBack 9 = .ok (.if_icmp .ge 12, 3) := by decide +kernel
theorem dX9_ledBack_12 : decode cX9_ledBack 12 = .ok (.aload_n 0, 1) := by decide +kernel
theorem dX9_ledBack_13 : decode cX9_ledBack 13 = .ok (.getfield 108, 3) := by decide +kernel
theorem dX9_ledBack_16 : decode cX9_ledBack 16 = .ok (.iload_n 1, 1) := by decide +kernel
theorem dX9_ledBack_17 : decode cX9_ledBack 17 = .ok (.iaload, 1) := by decide +kernel
theorem dX9_ledBack_18 : decode cX9_ledBack 18 = .ok (.goto 5, 3) := by decide +kernel
theorem dX9_ledBack_21 : decode cX9_ledBack 21 = .ok (.bipush (-9), 2) := by decide +kernel
theorem dX9_ledBack_23 : decode cX9_ledBack 23 = .ok (.ireturn, 1) := by decide +kernel
theorem dX9_reopen_0 : decode cX9_reopen 0 = .ok (.aload_n 0, 1) := by decide +kernel
theorem dX9_reopen_1 : decode cX9_reopen 1 = .ok (.iload_n 1, 1) := by decide +kernel
theorem dX9_reopen_2 : decode cX9_reopen 2 = .ok (.invokevirtual 141, 3) := by decide +kernel
theorem dX9_reopen_5 : decode cX9_reopen 5 = .ok (.ifCond .ne 9, 3) := by decide +kernel
theorem dX9_reopen_8 : decode cX9_reopen 8 = .ok (.aload_n 0, 1) := by decide +kernel
theorem dX9_reopen_9 : decode cX9_reopen 9 = .ok (.iconst (-1), 1) := by decide +kernel
theorem dX9_reopen_10 : decode cX9_reopen 10 = .ok (.invokevirtual 128, 3) := by decide +kernel
theorem dX9_reopen_13 : decode cX9_reopen 13 = .ok (.ireturn, 1) := by decide +kernel
theorem dX9_reopen_14 : decode cX9_reopen 14 = .ok (.aload_n 0, 1) := by decide +kernel
theorem dX9_reopen_15 : decode cX9_reopen 15 = .ok (.getfield 57, 3) := by decide +kernel
theorem dX9_reopen_18 : decode cX9_reopen 18 = .ok (.iload_n 1, 1) := by decide +kernel
theorem dX9_reopen_19 : decode cX9_reopen 19 = .ok (.iaload, 1) := by decide +kernel
theorem dX9_reopen_20 : decode cX9_reopen 20 = .ok (.iconst 2, 1) := by decide +kernel
theorem dX9_reopen_21 : decode cX9_reopen 21 = .ok (.if_icmp .ne 12, 3) := by decide +kernel
theorem dX9_reopen_24 : decode cX9_reopen 24 = .ok (.aload_n 0, 1) := by decide +kernel
theorem dX9_reopen_25 : decode cX9_reopen 25 = .ok (.getfield 75, 3) := by decide +kernel
theorem dX9_reopen_28 : decode cX9_reopen 28 = .ok (.iload_n 1, 1) := by decide +kernel
theorem dX9_reopen_29 : decode cX9_reopen 29 = .ok (.baload, 1) := by decide +kernel
theorem dX9_reopen_30 : decode cX9_reopen 30 = .ok (.ifCond .ne 10, 3) := by decide +kernel
theorem dX9_reopen_33 : decode cX9_reopen 33 = .ok (.aload_n 0, 1) := by decide +kernel
theorem dX9_reopen_34 : decode cX9_reopen 34 = .ok (.bipush (-3), 2) := by decide +kernel
theorem dX9_reopen_36 : decode cX9_reopen 36 = .ok (.invokevirtual 128, 3) := by decide +kernel
theorem dX9_reopen_39 : decode cX9_reopen 39 = .ok (.ireturn, 1) := by decide +kernel
theorem dX9_reopen_40 : decode cX9_reopen 40 = .ok (.aload_n 0, 1) := by decide +kernel
theorem dX9_reopen_41 : decode cX9_reopen 41 = .ok (.iload_n 1, 1) := by decide +kernel
theorem dX9_reopen_42 : decode cX9_reopen 42 = .ok (.iconst 1, 1) := by decide +kernel
theorem dX9_reopen_43 : decode cX9_reopen 43 = .ok (.invokevirtual 181, 3) := by decide +kernel
theorem dX9_reopen_46 : decode cX9_reopen 46 = .ok (.ireturn, 1) := by decide +kernel
theorem dX9_other_0 : decode cX9_other 0 = .ok (.iload_n 1, 1) := by decide +kernel
theorem dX9_other_1 : decode cX9_other 1 = .ok (.iconst 1, 1) := by decide +kernel
theorem dX9_other_2 : decode cX9_other 2 = .ok (.if_icmp .lt 11, 3) := by decide +kernel
theorem dX9_other_5 : decode cX9_other 5 = .ok (.iload_n 2, 1) := by decide +kernel
theorem dX9_other_6 : decode cX9_other 6 = .ok (.ifCond .lt 7, 3) := by decide +kernel
theorem dX9_other_9 : decode cX9_other 9 = .ok (.iload_n 3, 1) := by decide +kernel
theorem dX9_other_10 : decode cX9_other 10 = .ok (.ifCond .ge 10, 3) := by decide +kernel
theorem dX9_other_13 : decode cX9_other 13 = .ok (.aload_n 0, 1) := by decide +kernel
theorem dX9_other_14 : decode cX9_other 14 = .ok (.bipush (-4), 2) := by decide +kernel
theorem dX9_other_16 : decode cX9_other 16 = .ok (.invokevirtual 128, 3) := by decide +kernel
theorem dX9_other_19 : decode cX9_other 19 = .ok (.ireturn, 1) := by decide +kernel
theorem dX9_other_20 : decode cX9_other 20 = .ok (.iload_n 1, 1) := by decide +kernel
theorem dX9_other_21 : decode cX9_other 21 = .ok (.bipush 40, 2) := by decide +kernel
theorem dX9_other_23 : decode cX9_other 23 = .ok (.if_icmp .gt 15, 3) := by decide +kernel
theorem dX9_other_26 : decode cX9_other 26 = .ok (.iload_n 2, 1) := by decide +kernel
theorem dX9_other_27 : decode cX9_other 27 = .ok (.bipush 100, 2) := by decide +kernel
theorem dX9_other_29 : decode cX9_other 29 = .ok (.if_icmp .gt 9, 3) := by decide +kernel
theorem dX9_other_32 : decode cX9_other 32 = .ok (.iload_n 3, 1) := by decide +kernel
theorem dX9_other_33 : decode cX9_other 33 = .ok (.ldc 194, 2) := by decide +kernel
theorem dX9_other_35 : decode cX9_other 35 = .ok (.if_icmp .le 10, 3) := by decide +kernel
theorem dX9_other_38 : decode cX9_other 38 = .ok (.aload_n 0, 1) := by decide +kernel
theorem dX9_other_39 : decode cX9_other 39 = .ok (.bipush (-6), 2) := by decide +kernel
theorem dX9_other_41 : decode cX9_other 41 = .ok (.invokevirtual 128, 3) := by decide +kernel
theorem dX9_other_44 : decode cX9_other 44 = .ok (.ireturn, 1) := by decide +kernel
theorem dX9_other_45 : decode cX9_other 45 = .ok (.aload_n 0, 1) := by decide +kernel
theorem dX9_other_46 : decode cX9_other 46 = .ok (.iload_n 1, 1) := by decide +kernel
theorem dX9_other_47 : decode cX9_other 47 = .ok (.invokevirtual 155, 3) := by decide +kernel
theorem dX9_other_50 : decode cX9_other 50 = .ok (.iconst 0, 1) := by decide +kernel
theorem dX9_other_51 : decode cX9_other 51 = .ok (.istore 4, 2) := by decide +kernel
theorem dX9_other_53 : decode cX9_other 53 = .ok (.iconst 0, 1) := by decide +kernel
theorem dX9_other_54 : decode cX9_other 54 = .ok (.istore 5, 2) := by decide +kernel
theorem dX9_other_56 : decode cX9_other 56 = .ok (.iload 5, 2) := by decide +kernel
theorem dX9_other_58 : decode cX9_other 58 = .ok (.aload_n 0, 1) := by decide +kernel
theorem dX9_other_59 : decode cX9_other 59 = .ok (.getfield 120, 3) := by decide +kernel
theorem dX9_other_62 : decode cX9_other 62 = .ok (.if_icmp .ge 89, 3) := by decide +kernel
theorem dX9_other_65 : decode cX9_other 65 = .ok (.aload_n 0, 1) := by decide +kernel
theorem dX9_other_66 : decode cX9_other 66 = .ok (.getfield 114, 3) := by decide +kernel
theorem dX9_other_69 : decode cX9_other 69 = .ok (.iload 5, 2) := by decide +kernel
theorem dX9_other_71 : decode cX9_other 71 = .ok (.iaload, 1) := by decide +kernel
theorem dX9_other_72 : decode cX9_other 72 = .ok (.iload 5, 2) := by decide +kernel
theorem dX9_other_74 : decode cX9_other 74 = .ok (.if_icmp .eq 6, 3) := by decide +kernel
theorem dX9_other_77 : decode cX9_other 77 = .ok (.goto 68, 3) := by decide +kernel
theorem dX9_other_80 : decode cX9_other 80 = .ok (.iconst 0, 1) := by decide +kernel
theorem dX9_other_81 : decode cX9_other 81 = .ok (.istore 6, 2) := by decide +kernel
theorem dX9_other_83 : decode cX9_other 83 = .ok (.iconst 0, 1) := by decide +kernel
theorem dX9_other_84 : decode cX9_other 84 = .ok (.istore 7, 2) := by decide +kernel
theorem dX9_other_86 : decode cX9_other 86 = .ok (.iload 7, 2) := by decide +kernel
theorem dX9_other_88 : decode cX9_other 88 = .ok (.aload_n 0, 1) := by decide +kernel
theorem dX9_other_89 : decode cX9_other 89 = .ok (.getfield 120, 3) := by decide +kernel
theorem dX9_other_92 : decode cX9_other 92 = .ok (.if_icmp .ge 35, 3) := by decide +kernel
theorem dX9_other_95 : decode cX9_other 95 = .ok (.aload_n 0, 1) := by decide +kernel
theorem dX9_other_96 : decode cX9_other 96 = .ok (.getfield 114, 3) := by decide +kernel
theorem dX9_other_99 : decode cX9_other 99 = .ok (.iload 7, 2) := by decide +kernel
theorem dX9_other_101 : decode cX9_other 101 = .ok (.iaload, 1) := by decide +kernel
theorem dX9_other_102 : decode cX9_other 102 = .ok (.iload 5, 2) := by decide +kernel
theorem dX9_other_104 : decode cX9_other 104 = .ok (.if_icmp .ne 17, 3) := by decide +kernel
theorem dX9_other_107 : decode cX9_other 107 = .ok (.aload_n 0, 1) := by decide +kernel
theorem dX9_other_108 : decode cX9_other 108 = .ok (.getfield 57, 3) := by decide +kernel
theorem dX9_other_111 : decode cX9_other 111 = .ok (.iload 7, 2) := by decide +kernel
theorem dX9_other_113 : decode cX9_other 113 = .ok (.iaload, 1) := by decide +kernel
theorem dX9_other_114 : decode cX9_other 114 = .ok (.iconst 1, 1) := by decide +kernel
theorem dX9_other_115 : decode cX9_other 115 = .ok (.if_icmp .ne 6, 3) := by decide +kernel
theorem dX9_other_118 : decode cX9_other 118 = .ok (.iconst 1, 1) := by decide +kernel
theorem dX9_other_119 : decode cX9_other 119 = .ok (.istore 6, 2) := by decide +kernel
theorem dX9_other_121 : decode cX9_other 121 = .ok (.iinc 7 1, 3) := by decide +kernel
theorem dX9_other_124 : decode cX9_other 124 = .ok (.goto (-38), 3) := by decide +kernel
theorem dX9_other_127 : decode cX9_other 127 = .ok (.iload 6, 2) := by decide +kernel
theorem dX9_other_129 : decode cX9_other 129 = .ok (.ifCond .eq 16, 3) := by decide +kernel
theorem dX9_other_132 : decode cX9_other 132 = .ok (.iload 4, 2) := by decide +kernel
theorem dX9_other_134 : decode cX9_other 134 = .ok (.aload_n 0, 1) := by decide +kernel
theorem dX9_other_135 : decode cX9_other 135 = .ok (.iload 5, 2) := by decide +kernel
theorem dX9_other_137 : decode cX9_other 137 = .ok (.iload_n 2, 1) := by decide +kernel
theorem dX9_other_138 : decode cX9_other 138 = .ok (.iload_n 3, 1) := by decide +kernel
theorem dX9_other_139 : decode cX9_other 139 = .ok (.invokevirtual 204, 3) := by decide +kernel
theorem dX9_other_142 : decode cX9_other 142 = .ok (.iadd, 1) := by decide +kernel
theorem dX9_other_143 : decode cX9_other 143 = .ok (.istore 4, 2) := by decide +kernel
theorem dX9_other_145 : decode cX9_other 145 = .ok (.iinc 5 1, 3) := by decide +kernel
theorem dX9_other_148 : decode cX9_other 148 = .ok (.goto (-92), 3) := by decide +kernel
theorem dX9_other_151 : decode cX9_other 151 = .ok (.iload 4, 2) := by decide +kernel
theorem dX9_other_153 : decode cX9_other 153 = .ok (.ireturn, 1) := by decide +kernel
theorem dX9_coins_0 : decode cX9_coins 0 = .ok (.aload_n 0, 1) := by decide +kernel
theorem dX9_coins_1 : decode cX9_coins 1 = .ok (.iload_n 1, 1) := by decide +kernel
theorem dX9_coins_2 : decode cX9_coins 2 = .ok (.invokevirtual 132, 3) := by decide +kernel
theorem dX9_coins_5 : decode cX9_coins 5 = .ok (.ifCond .ne 9, 3) := by decide +kernel
theorem dX9_coins_8 : decode cX9_coins 8 = .ok (.aload_n 0, 1) := by decide +kernel
theorem dX9_coins_9 : decode cX9_coins 9 = .ok (.iconst (-1), 1) := by decide +kernel
theorem dX9_coins_10 : decode cX9_coins 10 = .ok (.invokevirtual 128, 3) := by decide +kernel
theorem dX9_coins_13 : decode cX9_coins 13 = .ok (.ireturn, 1) := by decide +kernel
theorem dX9_coins_14 : decode cX9_coins 14 = .ok (.iload_n 2, 1) := by decide +kernel
theorem dX9_coins_15 : decode cX9_coins 15 = .ok (.ifCond .lt 8, 3) := by decide +kernel
theorem dX9_coins_18 : decode cX9_coins 18 = .ok (.iload_n 2, 1) := by decide +kernel
theorem dX9_coins_19 : decode cX9_coins 19 = .ok (.iconst 1, 1) := by decide +kernel
theorem dX9_coins_20 : decode cX9_coins 20 = .ok (.if_icmp .le 10, 3) := by decide +kernel
theorem dX9_coins_23 : decode cX9_coins 23 = .ok (.aload_n 0, 1) := by decide +kernel
theorem dX9_coins_24 : decode cX9_coins 24 = .ok (.bipush (-2), 2) := by decide +kernel
theorem dX9_coins_26 : decode cX9_coins 26 = .ok (.invokevirtual 128, 3) := by decide +kernel
theorem dX9_coins_29 : decode cX9_coins 29 = .ok (.ireturn, 1) := by decide +kernel
theorem dX9_coins_30 : decode cX9_coins 30 = .ok (.iload_n 2, 1) := by decide +kernel
theorem dX9_coins_31 : decode cX9_coins 31 = .ok (.ifCond .ne 12, 3) := by decide +kernel
theorem dX9_coins_34 : decode cX9_coins 34 = .ok (.aload_n 0, 1) := by decide +kernel
theorem dX9_coins_35 : decode cX9_coins 35 = .ok (.getfield 29, 3) := by decide +kernel
theorem dX9_coins_38 : decode cX9_coins 38 = .ok (.iload_n 1, 1) := by decide +kernel
theorem dX9_coins_39 : decode cX9_coins 39 = .ok (.iaload, 1) := by decide +kernel
theorem dX9_coins_40 : decode cX9_coins 40 = .ok (.goto 9, 3) := by decide +kernel
theorem dX9_coins_43 : decode cX9_coins 43 = .ok (.aload_n 0, 1) := by decide +kernel
theorem dX9_coins_44 : decode cX9_coins 44 = .ok (.getfield 32, 3) := by decide +kernel
theorem dX9_coins_47 : decode cX9_coins 47 = .ok (.iload_n 1, 1) := by decide +kernel
theorem dX9_coins_48 : decode cX9_coins 48 = .ok (.iaload, 1) := by decide +kernel
theorem dX9_coins_49 : decode cX9_coins 49 = .ok (.ireturn, 1) := by decide +kernel
theorem dX9_ideaOf_0 : decode cX9_ideaOf 0 = .ok (.aload_n 0, 1) := by decide +kernel
theorem dX9_ideaOf_1 : decode cX9_ideaOf 1 = .ok (.iload_n 1, 1) := by decide +kernel
theorem dX9_ideaOf_2 : decode cX9_ideaOf 2 = .ok (.invokevirtual 141, 3) := by decide +kernel
theorem dX9_ideaOf_5 : decode cX9_ideaOf 5 = .ok (.ifCond .ne 9, 3) := by decide +kernel
theorem dX9_ideaOf_8 : decode cX9_ideaOf 8 = .ok (.aload_n 0, 1) := by decide +kernel
theorem dX9_ideaOf_9 : decode cX9_ideaOf 9 = .ok (.iconst (-1), 1) := by decide +kernel
theorem dX9_ideaOf_10 : decode cX9_ideaOf 10 = .ok (.invokevirtual 128, 3) := by decide +kernel
theorem dX9_ideaOf_13 : decode cX9_ideaOf 13 = .ok (.ireturn, 1) := by decide +kernel
theorem dX9_ideaOf_14 : decode cX9_ideaOf 14 = .ok (.iload_n 2, 1) := by decide +kernel
theorem dX9_ideaOf_15 : decode cX9_ideaOf 15 = .ok (.tableswitch 79 0 5 #[37, 44, 51, 58, 65, 72], 37) := by decide +kernel
theorem dX9_ideaOf_52 : decode cX9_ideaOf 52 = .ok (.aload_n 0, 1) := by decide +kernel
theorem dX9_ideaOf_53 : decode cX9_ideaOf 53 = .ok (.getfield 57, 3) := by decide +kernel
theorem dX9_ideaOf_56 : decode cX9_ideaOf 56 = .ok (.iload_n 1, 1) := by decide +kernel
theorem dX9_ideaOf_57 : decode cX9_ideaOf 57 = .ok (.iaload, 1) := by decide +kernel
theorem dX9_ideaOf_58 : decode cX9_ideaOf 58 = .ok (.ireturn, 1) := by decide +kernel
theorem dX9_ideaOf_59 : decode cX9_ideaOf 59 = .ok (.aload_n 0, 1) := by decide +kernel
theorem dX9_ideaOf_60 : decode cX9_ideaOf 60 = .ok (.getfield 54, 3) := by decide +kernel
theorem dX9_ideaOf_63 : decode cX9_ideaOf 63 = .ok (.iload_n 1, 1) := by decide +kernel
theorem dX9_ideaOf_64 : decode cX9_ideaOf 64 = .ok (.iaload, 1) := by decide +kernel
theorem dX9_ideaOf_65 : decode cX9_ideaOf 65 = .ok (.ireturn, 1) := by decide +kernel
theorem dX9_ideaOf_66 : decode cX9_ideaOf 66 = .ok (.aload_n 0, 1) := by decide +kernel
theorem dX9_ideaOf_67 : decode cX9_ideaOf 67 = .ok (.getfield 60, 3) := by decide +kernel
theorem dX9_ideaOf_70 : decode cX9_ideaOf 70 = .ok (.iload_n 1, 1) := by decide +kernel
theorem dX9_ideaOf_71 : decode cX9_ideaOf 71 = .ok (.iaload, 1) := by decide +kernel
theorem dX9_ideaOf_72 : decode cX9_ideaOf 72 = .ok (.ireturn, 1) := by decide +kernel
theorem dX9_ideaOf_73 : decode cX9_ideaOf 73 = .ok (.aload_n 0, 1) := by decide +kernel
theorem dX9_ideaOf_74 : decode cX9_ideaOf 74 = .ok (.getfield 63, 3) := by decide +kernel
theorem dX9_ideaOf_77 : decode cX9_ideaOf 77 = .ok (.iload_n 1, 1) := by decide +kernel
theorem dX9_ideaOf_78 : decode cX9_ideaOf 78 = .ok (.iaload, 1) := by decide +kernel
theorem dX9_ideaOf_79 : decode cX9_ideaOf 79 = .ok (.ireturn, 1) := by decide +kernel
theorem dX9_ideaOf_80 : decode cX9_ideaOf 80 = .ok (.aload_n 0, 1) := by decide +kernel
theorem dX9_ideaOf_81 : decode cX9_ideaOf 81 = .ok (.getfield 51, 3) := by decide +kernel
theorem dX9_ideaOf_84 : decode cX9_ideaOf 84 = .ok (.iload_n 1, 1) := by decide +kernel
theorem dX9_ideaOf_85 : decode cX9_ideaOf 85 = .ok (.iaload, 1) := by decide +kernel
theorem dX9_ideaOf_86 : decode cX9_ideaOf 86 = .ok (.ireturn, 1) := by decide +kernel
theorem dX9_ideaOf_87 : decode cX9_ideaOf 87 = .ok (.aload_n 0, 1) := by decide +kernel
theorem dX9_ideaOf_88 : decode cX9_ideaOf 88 = .ok (.getfield 48, 3) := by decide +kernel
theorem dX9_ideaOf_91 : decode cX9_ideaOf 91 = .ok (.iload_n 1, 1) := by decide +kernel
theorem dX9_ideaOf_92 : decode cX9_ideaOf 92 = .ok (.iaload, 1) := by decide +kernel
theorem dX9_ideaOf_93 : decode cX9_ideaOf 93 = .ok (.ireturn, 1) := by decide +kernel
theorem dX9_ideaOf_94 : decode cX9_ideaOf 94 = .ok (.aload_n 0, 1) := by decide +kernel
theorem dX9_ideaOf_95 : decode cX9_ideaOf 95 = .ok (.bipush (-2), 2) := by decide +kernel
theorem dX9_ideaOf_97 : decode cX9_ideaOf 97 = .ok (.invokevirtual 128, 3) := by decide +kernel
theorem dX9_ideaOf_100 : decode cX9_ideaOf 100 = .ok (.ireturn, 1) := by decide +kernel
theorem dX9_count_0 : decode cX9_count 0 = .ok (.iload_n 1, 1) := by decide +kernel
theorem dX9_count_1 : decode cX9_count 1 = .ok (.bipush 10, 2) := by decide +kernel
theorem dX9_count_3 : decode cX9_count 3 = .ok (.if_icmp .le 19, 3) := by decide +kernel
theorem dX9_count_6 : decode cX9_count 6 = .ok (.iload_n 1, 1) := by decide +kernel
theorem dX9_count_7 : decode cX9_count 7 = .ok (.bipush 17, 2) := by decide +kernel
theorem dX9_count_9 : decode cX9_count 9 = .ok (.if_icmp .ge 13, 3) := by decide +kernel
theorem dX9_count_12 : decode cX9_count 12 = .ok (.aload_n 0, 1) := by decide +kernel
theorem dX9_count_13 : decode cX9_count 13 = .ok (.getfield 111, 3) := by decide +kernel
theorem dX9_count_16 : decode cX9_count 16 = .ok (.iload_n 1, 1) := by decide +kernel
theorem dX9_count_17 : decode cX9_count 17 = .ok (.bipush 10, 2) := by decide +kernel
theorem dX9_count_19 : decode cX9_count 19 = .ok (.isub, 1) := by decide +kernel
theorem dX9_count_20 : decode cX9_count 20 = .ok (.iaload, 1) := by decide +kernel
theorem dX9_count_21 : decode cX9_count 21 = .ok (.ireturn, 1) := by decide +kernel
theorem dX9_count_22 : decode cX9_count 22 = .ok (.iconst 0, 1) := by decide +kernel
theorem dX9_count_23 : decode cX9_count 23 = .ok (.istore_n 2, 1) := by decide +kernel
theorem dX9_count_24 : decode cX9_count 24 = .ok (.iload_n 1, 1) := by decide +kernel
theorem dX9_count_25 : decode cX9_count 25 = .ok (.tableswitch 196 0 9 #[55, 60, 65, 70, 101, 132, 171, 176, 181, 186], 55) := by decide +kernel
theorem dX9_count_80 : decode cX9_count 80 = .ok (.aload_n 0, 1) := by decide +kernel
theorem dX9_count_81 : decode cX9_count 81 = .ok (.getfield 138, 3) := by decide +kernel
theorem dX9_count_84 : decode cX9_count 84 = .ok (.ireturn, 1) := by decide +kernel
theorem dX9_count_85 : decode cX9_count 85 = .ok (.aload_n 0, 1) := by decide +kernel
theorem dX9_count_86 : decode cX9_count 86 = .ok (.getfield 117, 3) := by decide +kernel
theorem dX9_count_89 : decode cX9_count 89 = .ok (.ireturn, 1) := by decide +kernel
theorem dX9_count_90 : decode cX9_count 90 = .ok (.aload_n 0, 1) := by decide +kernel
theorem dX9_count_91 : decode cX9_count 91 = .ok (.getfield 120, 3) := by decide +kernel
theorem dX9_count_94 : decode cX9_count 94 = .ok (.ireturn, 1) := by decide +kernel
theorem dX9_count_95 : decode cX9_count 95 = .ok (.iconst 0, 1) := by decide +kernel
theorem dX9_count_96 : decode cX9_count 96 = .ok (.istore_n 3, 1) := by decide +kernel
theorem dX9_count_97 : decode cX9_count 97 = .ok (.iload_n 3, 1) := by decide +kernel
theorem dX9_count_98 : decode cX9_count 98 = .ok (.aload_n 0, 1) := by decide +kernel
theorem dX9_count_99 : decode cX9_count 99 = .ok (.getfield 120, 3) := by decide +kernel
theorem dX9_count_102 : decode cX9_count 102 = .ok (.if_icmp .ge 22, 3) := by decide +kernel
theorem dX9_count_105 : decode cX9_count 105 = .ok (.aload_n 0, 1) := by decide +kernel
theorem dX9_count_106 : decode cX9_count 106 = .ok (.getfield 57, 3) := by decide +kernel
theorem dX9_count_109 : decode cX9_count 109 = .ok (.iload_n 3, 1) := by decide +kernel
theorem dX9_count_110 : decode cX9_count 110 = .ok (.iaload, 1) := by decide +kernel
theorem dX9_count_111 : decode cX9_count 111 = .ok (.iconst 1, 1) := by decide +kernel
theorem dX9_count_112 : decode cX9_count 112 = .ok (.if_icmp .ne 6, 3) := by decide +kernel
theorem dX9_count_115 : decode cX9_count 115 = .ok (.iinc 2 1, 3) := by decide +kernel
theorem dX9_count_118 : decode cX9_count 118 = .ok (.iinc 3 1, 3) := by decide +kernel
theorem dX9_count_121 : decode cX9_count 121 = .ok (.goto (-24), 3) := by decide +kernel
theorem dX9_count_124 : decode cX9_count 124 = .ok (.iload_n 2, 1) := by decide +kernel
theorem dX9_count_125 : decode cX9_count 125 = .ok (.ireturn, 1) := by decide +kernel
theorem dX9_count_126 : decode cX9_count 126 = .ok (.iconst 0, 1) := by decide +kernel
theorem dX9_count_127 : decode cX9_count 127 = .ok (.istore_n 3, 1) := by decide +kernel
theorem dX9_count_128 : decode cX9_count 128 = .ok (.iload_n 3, 1) := by decide +kernel
theorem dX9_count_129 : decode cX9_count 129 = .ok (.aload_n 0, 1) := by decide +kernel
theorem dX9_count_130 : decode cX9_count 130 = .ok (.getfield 120, 3) := by decide +kernel
theorem dX9_count_133 : decode cX9_count 133 = .ok (.if_icmp .ge 22, 3) := by decide +kernel
theorem dX9_count_136 : decode cX9_count 136 = .ok (.aload_n 0, 1) := by decide +kernel
theorem dX9_count_137 : decode cX9_count 137 = .ok (.getfield 57, 3) := by decide +kernel
theorem dX9_count_140 : decode cX9_count 140 = .ok (.iload_n 3, 1) := by decide +kernel
theorem dX9_count_141 : decode cX9_count 141 = .ok (.iaload, 1) := by decide +kernel
theorem dX9_count_142 : decode cX9_count 142 = .ok (.iconst 2, 1) := by decide +kernel
theorem dX9_count_143 : decode cX9_count 143 = .ok (.if_icmp .ne 6, 3) := by decide +kernel
theorem dX9_count_146 : decode cX9_count 146 = .ok (.iinc 2 1, 3) := by decide +kernel
theorem dX9_count_149 : decode cX9_count 149 = .ok (.iinc 3 1, 3) := by decide +kernel
theorem dX9_count_152 : decode cX9_count 152 = .ok (.goto (-24), 3) := by decide +kernel
theorem dX9_count_155 : decode cX9_count 155 = .ok (.iload_n 2, 1) := by decide +kernel
theorem dX9_count_156 : decode cX9_count 156 = .ok (.ireturn, 1) := by decide +kernel
theorem dX9_count_157 : decode cX9_count 157 = .ok (.aload_n 0, 1) := by decide +kernel
theorem dX9_count_158 : decode cX9_count 158 = .ok (.aload_n 0, 1) := by decide +kernel
theorem dX9_count_159 : decode cX9_count 159 = .ok (.getfield 7, 3) := by decide +kernel
theorem dX9_count_162 : decode cX9_count 162 = .ok (.invokevirtual 155, 3) := by decide +kernel
theorem dX9_count_165 : decode cX9_count 165 = .ok (.iconst 0, 1) := by decide +kernel
theorem dX9_count_166 : decode cX9_count 166 = .ok (.istore_n 3, 1) := by decide +kernel
theorem dX9_count_167 : decode cX9_count 167 = .ok (.iload_n 3, 1) := by decide +kernel
theorem dX9_count_168 : decode cX9_count 168 = .ok (.aload_n 0, 1) := by decide +kernel
theorem dX9_count_169 : decode cX9_count 169 = .ok (.getfield 120, 3) := by decide +kernel
theorem dX9_count_172 : decode cX9_count 172 = .ok (.if_icmp .ge 22, 3) := by decide +kernel
theorem dX9_count_175 : decode cX9_count 175 = .ok (.aload_n 0, 1) := by decide +kernel
theorem dX9_count_176 : decode cX9_count 176 = .ok (.getfield 114, 3) := by decide +kernel
theorem dX9_count_179 : decode cX9_count 179 = .ok (.iload_n 3, 1) := by decide +kernel
theorem dX9_count_180 : decode cX9_count 180 = .ok (.iaload, 1) := by decide +kernel
theorem dX9_count_181 : decode cX9_count 181 = .ok (.iload_n 3, 1) := by decide +kernel
theorem dX9_count_182 : decode cX9_count 182 = .ok (.if_icmp .ne 6, 3) := by decide +kernel
theorem dX9_count_185 : decode cX9_count 185 = .ok (.iinc 2 1, 3) := by decide +kernel
theorem dX9_count_188 : decode cX9_count 188 = .ok (.iinc 3 1, 3) := by decide +kernel
theorem dX9_count_191 : decode cX9_count 191 = .ok (.goto (-24), 3) := by decide +kernel
theorem dX9_count_194 : decode cX9_count 194 = .ok (.iload_n 2, 1) := by decide +kernel
theorem dX9_count_195 : decode cX9_count 195 = .ok (.ireturn, 1) := by decide +kernel
theorem dX9_count_196 : decode cX9_count 196 = .ok (.aload_n 0, 1) := by decide +kernel
theorem dX9_count_197 : decode cX9_count 197 = .ok (.getfield 187, 3) := by decide +kernel
theorem dX9_count_200 : decode cX9_count 200 = .ok (.ireturn, 1) := by decide +kernel
theorem dX9_count_201 : decode cX9_count 201 = .ok (.aload_n 0, 1) := by decide +kernel
theorem dX9_count_202 : decode cX9_count 202 = .ok (.getfield 198, 3) := by decide +kernel
theorem dX9_count_205 : decode cX9_count 205 = .ok (.ireturn, 1) := by decide +kernel
theorem dX9_count_206 : decode cX9_count 206 = .ok (.aload_n 0, 1) := by decide +kernel
theorem dX9_count_207 : decode cX9_count 207 = .ok (.getfield 213, 3) := by decide +kernel
theorem dX9_count_210 : decode cX9_count 210 = .ok (.ireturn, 1) := by decide +kernel
theorem dX9_count_211 : decode cX9_count 211 = .ok (.aload_n 0, 1) := by decide +kernel
theorem dX9_count_212 : decode cX9_count 212 = .ok (.getfield 207, 3) := by decide +kernel
theorem dX9_count_215 : decode cX9_count 215 = .ok (.aload_n 0, 1) := by decide +kernel
theorem dX9_count_216 : decode cX9_count 216 = .ok (.getfield 175, 3) := by decide +kernel
theorem dX9_count_219 : decode cX9_count 219 = .ok (.iadd, 1) := by decide +kernel
theorem dX9_count_220 : decode cX9_count 220 = .ok (.ireturn, 1) := by decide +kernel
theorem dX9_count_221 : decode cX9_count 221 = .ok (.bipush (-9), 2) := by decide +kernel
theorem dX9_count_223 : decode cX9_count 223 = .ok (.ireturn, 1) := by decide +kernel
