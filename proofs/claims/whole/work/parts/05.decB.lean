theorem dX7_hear_52 : decode cX7_hear 52 = .ok (.getfield 3, 3) := by decide +kernel
theorem dX7_hear_55 : decode cX7_hear 55 = .ok (.iload_n 2, 1) := by decide +kernel
theorem dX7_hear_56 : decode cX7_hear 56 = .ok (.aload_n 0, 1) := by decide +kernel
theorem dX7_hear_57 : decode cX7_hear 57 = .ok (.getfield 34, 3) := by decide +kernel
theorem dX7_hear_60 : decode cX7_hear 60 = .ok (.aload_n 0, 1) := by decide +kernel
theorem dX7_hear_61 : decode cX7_hear 61 = .ok (.getfield 3, 3) := by decide +kernel
theorem dX7_hear_64 : decode cX7_hear 64 = .ok (.getfield 61, 3) := by decide +kernel
theorem dX7_hear_67 : decode cX7_hear 67 = .ok (.iload_n 2, 1) := by decide +kernel
theorem dX7_hear_68 : decode cX7_hear 68 = .ok (.iaload, 1) := by decide +kernel
theorem dX7_hear_69 : decode cX7_hear 69 = .ok (.aload_n 0, 1) := by decide +kernel
theorem dX7_hear_70 : decode cX7_hear 70 = .ok (.getfield 3, 3) := by decide +kernel
theorem dX7_hear_73 : decode cX7_hear 73 = .ok (.getfield 64, 3) := by decide +kernel
theorem dX7_hear_76 : decode cX7_hear 76 = .ok (.iload_n 2, 1) := by decide +kernel
theorem dX7_hear_77 : decode cX7_hear 77 = .ok (.iaload, 1) := by decide +kernel
theorem dX7_hear_78 : decode cX7_hear 78 = .ok (.aload_n 0, 1) := by decide +kernel
theorem dX7_hear_79 : decode cX7_hear 79 = .ok (.getfield 15, 3) := by decide +kernel
theorem dX7_hear_82 : decode cX7_hear 82 = .ok (.iload_n 2, 1) := by decide +kernel
theorem dX7_hear_83 : decode cX7_hear 83 = .ok (.iaload, 1) := by decide +kernel
theorem dX7_hear_84 : decode cX7_hear 84 = .ok (.iload_n 1, 1) := by decide +kernel
theorem dX7_hear_85 : decode cX7_hear 85 = .ok (.invokevirtual 67, 3) := by decide +kernel
theorem dX7_hear_88 : decode cX7_hear 88 = .ok (.istore_n 3, 1) := by decide +kernel
theorem dX7_hear_89 : decode cX7_hear 89 = .ok (.iload_n 3, 1) := by decide +kernel
theorem dX7_hear_90 : decode cX7_hear 90 = .ok (.ifCond .lt 127, 3) := by decide +kernel
theorem dX7_hear_93 : decode cX7_hear 93 = .ok (.aload_n 0, 1) := by decide +kernel
theorem dX7_hear_94 : decode cX7_hear 94 = .ok (.iload_n 2, 1) := by decide +kernel
theorem dX7_hear_95 : decode cX7_hear 95 = .ok (.iload_n 3, 1) := by decide +kernel
theorem dX7_hear_96 : decode cX7_hear 96 = .ok (.invokevirtual 71, 3) := by decide +kernel
theorem dX7_hear_99 : decode cX7_hear 99 = .ok (.ifCond .eq 6, 3) := by decide +kernel
theorem dX7_hear_102 : decode cX7_hear 102 = .ok (.goto 115, 3) := by decide +kernel
theorem dX7_hear_105 : decode cX7_hear 105 = .ok (.iconst 4, 1) := by decide +kernel
theorem dX7_hear_106 : decode cX7_hear 106 = .ok (.bipush 40, 2) := by decide +kernel
theorem dX7_hear_108 : decode cX7_hear 108 = .ok (.iload_n 2, 1) := by decide +kernel
theorem dX7_hear_109 : decode cX7_hear 109 = .ok (.imul, 1) := by decide +kernel
theorem dX7_hear_110 : decode cX7_hear 110 = .ok (.aload_n 0, 1) := by decide +kernel
theorem dX7_hear_111 : decode cX7_hear 111 = .ok (.getfield 19, 3) := by decide +kernel
theorem dX7_hear_114 : decode cX7_hear 114 = .ok (.iload_n 2, 1) := by decide +kernel
theorem dX7_hear_115 : decode cX7_hear 115 = .ok (.iaload, 1) := by decide +kernel
theorem dX7_hear_116 : decode cX7_hear 116 = .ok (.iadd, 1) := by decide +kernel
theorem dX7_hear_117 : decode cX7_hear 117 = .ok (.imul, 1) := by decide +kernel
theorem dX7_hear_118 : decode cX7_hear 118 = .ok (.istore 4, 2) := by decide +kernel
theorem dX7_hear_120 : decode cX7_hear 120 = .ok (.aload_n 0, 1) := by decide +kernel
theorem dX7_hear_121 : decode cX7_hear 121 = .ok (.getfield 22, 3) := by decide +kernel
theorem dX7_hear_124 : decode cX7_hear 124 = .ok (.iload 4, 2) := by decide +kernel
theorem dX7_hear_126 : decode cX7_hear 126 = .ok (.aload_n 0, 1) := by decide +kernel
theorem dX7_hear_127 : decode cX7_hear 127 = .ok (.getfield 34, 3) := by decide +kernel
theorem dX7_hear_130 : decode cX7_hear 130 = .ok (.iastore, 1) := by decide +kernel
theorem dX7_hear_131 : decode cX7_hear 131 = .ok (.aload_n 0, 1) := by decide +kernel
theorem dX7_hear_132 : decode cX7_hear 132 = .ok (.getfield 22, 3) := by decide +kernel
theorem dX7_hear_135 : decode cX7_hear 135 = .ok (.iload 4, 2) := by decide +kernel
theorem dX7_hear_137 : decode cX7_hear 137 = .ok (.iconst 1, 1) := by decide +kernel
theorem dX7_hear_138 : decode cX7_hear 138 = .ok (.iadd, 1) := by decide +kernel
theorem dX7_hear_139 : decode cX7_hear 139 = .ok (.iload_n 3, 1) := by decide +kernel
theorem dX7_hear_140 : decode cX7_hear 140 = .ok (.iastore, 1) := by decide +kernel
theorem dX7_hear_141 : decode cX7_hear 141 = .ok (.aload_n 0, 1) := by decide +kernel
theorem dX7_hear_142 : decode cX7_hear 142 = .ok (.getfield 22, 3) := by decide +kernel
theorem dX7_hear_145 : decode cX7_hear 145 = .ok (.iload 4, 2) := by decide +kernel
theorem dX7_hear_147 : decode cX7_hear 147 = .ok (.iconst 2, 1) := by decide +kernel
theorem dX7_hear_148 : decode cX7_hear 148 = .ok (.iadd, 1) := by decide +kernel
theorem dX7_hear_149 : decode cX7_hear 149 = .ok (.aload_n 0, 1) := by decide +kernel
theorem dX7_hear_150 : decode cX7_hear 150 = .ok (.getfield 3, 3) := by decide +kernel
theorem dX7_hear_153 : decode cX7_hear 153 = .ok (.iload_n 2, 1) := by decide +kernel
theorem dX7_hear_154 : decode cX7_hear 154 = .ok (.iload_n 3, 1) := by decide +kernel
theorem dX7_hear_155 : decode cX7_hear 155 = .ok (.aload_n 0, 1) := by decide +kernel
theorem dX7_hear_156 : decode cX7_hear 156 = .ok (.getfield 34, 3) := by decide +kernel
theorem dX7_hear_159 : decode cX7_hear 159 = .ok (.aload_n 0, 1) := by decide +kernel
theorem dX7_hear_160 : decode cX7_hear 160 = .ok (.getfield 3, 3) := by decide +kernel
theorem dX7_hear_163 : decode cX7_hear 163 = .ok (.getfield 61, 3) := by decide +kernel
theorem dX7_hear_166 : decode cX7_hear 166 = .ok (.iload_n 2, 1) := by decide +kernel
theorem dX7_hear_167 : decode cX7_hear 167 = .ok (.iaload, 1) := by decide +kernel
theorem dX7_hear_168 : decode cX7_hear 168 = .ok (.aload_n 0, 1) := by decide +kernel
theorem dX7_hear_169 : decode cX7_hear 169 = .ok (.getfield 3, 3) := by decide +kernel
theorem dX7_hear_172 : decode cX7_hear 172 = .ok (.getfield 64, 3) := by decide +kernel
theorem dX7_hear_175 : decode cX7_hear 175 = .ok (.iload_n 2, 1) := by decide +kernel
theorem dX7_hear_176 : decode cX7_hear 176 = .ok (.iaload, 1) := by decide +kernel
theorem dX7_hear_177 : decode cX7_hear 177 = .ok (.aload_n 0, 1) := by decide +kernel
theorem dX7_hear_178 : decode cX7_hear 178 = .ok (.getfield 15, 3) := by decide +kernel
theorem dX7_hear_181 : decode cX7_hear 181 = .ok (.iload_n 2, 1) := by decide +kernel
theorem dX7_hear_182 : decode cX7_hear 182 = .ok (.iaload, 1) := by decide +kernel
theorem dX7_hear_183 : decode cX7_hear 183 = .ok (.invokevirtual 75, 3) := by decide +kernel
theorem dX7_hear_186 : decode cX7_hear 186 = .ok (.iastore, 1) := by decide +kernel
theorem dX7_hear_187 : decode cX7_hear 187 = .ok (.aload_n 0, 1) := by decide +kernel
theorem dX7_hear_188 : decode cX7_hear 188 = .ok (.getfield 22, 3) := by decide +kernel
theorem dX7_hear_191 : decode cX7_hear 191 = .ok (.iload 4, 2) := by decide +kernel
theorem dX7_hear_193 : decode cX7_hear 193 = .ok (.iconst 3, 1) := by decide +kernel
theorem dX7_hear_194 : decode cX7_hear 194 = .ok (.iadd, 1) := by decide +kernel
theorem dX7_hear_195 : decode cX7_hear 195 = .ok (.iconst 0, 1) := by decide +kernel
theorem dX7_hear_196 : decode cX7_hear 196 = .ok (.iastore, 1) := by decide +kernel
theorem dX7_hear_197 : decode cX7_hear 197 = .ok (.aload_n 0, 1) := by decide +kernel
theorem dX7_hear_198 : decode cX7_hear 198 = .ok (.getfield 19, 3) := by decide +kernel
theorem dX7_hear_201 : decode cX7_hear 201 = .ok (.iload_n 2, 1) := by decide +kernel
theorem dX7_hear_202 : decode cX7_hear 202 = .ok (.dup2, 1) := by decide +kernel
theorem dX7_hear_203 : decode cX7_hear 203 = .ok (.iaload, 1) := by decide +kernel
theorem dX7_hear_204 : decode cX7_hear 204 = .ok (.iconst 1, 1) := by decide +kernel
theorem dX7_hear_205 : decode cX7_hear 205 = .ok (.iadd, 1) := by decide +kernel
theorem dX7_hear_206 : decode cX7_hear 206 = .ok (.iastore, 1) := by decide +kernel
theorem dX7_hear_207 : decode cX7_hear 207 = .ok (.aload_n 0, 1) := by decide +kernel
theorem dX7_hear_208 : decode cX7_hear 208 = .ok (.dup, 1) := by decide +kernel
theorem dX7_hear_209 : decode cX7_hear 209 = .ok (.getfield 41, 3) := by decide +kernel
theorem dX7_hear_212 : decode cX7_hear 212 = .ok (.iconst 1, 1) := by decide +kernel
theorem dX7_hear_213 : decode cX7_hear 213 = .ok (.iadd, 1) := by decide +kernel
theorem dX7_hear_214 : decode cX7_hear 214 = .ok (.putfield 41, 3) := by decide +kernel
theorem dX7_hear_217 : decode cX7_hear 217 = .ok (.iinc 2 1, 3) := by decide +kernel
theorem dX7_hear_220 : decode cX7_hear 220 = .ok (.goto (-206), 3) := by decide +kernel
theorem dX7_hear_223 : decode cX7_hear 223 = .ok (.return_, 1) := by decide +kernel
theorem dX7_answer_0 : decode cX7_answer 0 = .ok (.iconst 0, 1) := by decide +kernel
theorem dX7_answer_1 : decode cX7_answer 1 = .ok (.istore_n 1, 1) := by decide +kernel
theorem dX7_answer_2 : decode cX7_answer 2 = .ok (.iconst 0, 1) := by decide +kernel
theorem dX7_answer_3 : decode cX7_answer 3 = .ok (.istore_n 2, 1) := by decide +kernel
theorem dX7_answer_4 : decode cX7_answer 4 = .ok (.iload_n 2, 1) := by decide +kernel
theorem dX7_answer_5 : decode cX7_answer 5 = .ok (.aload_n 0, 1) := by decide +kernel
theorem dX7_answer_6 : decode cX7_answer 6 = .ok (.getfield 38, 3) := by decide +kernel
theorem dX7_answer_9 : decode cX7_answer 9 = .ok (.if_icmp .ge 102, 3) := by decide +kernel
theorem dX7_answer_12 : decode cX7_answer 12 = .ok (.aload_n 0, 1) := by decide +kernel
theorem dX7_answer_13 : decode cX7_answer 13 = .ok (.getfield 25, 3) := by decide +kernel
theorem dX7_answer_16 : decode cX7_answer 16 = .ok (.iconst 2, 1) := by decide +kernel
theorem dX7_answer_17 : decode cX7_answer 17 = .ok (.iload_n 2, 1) := by decide +kernel
theorem dX7_answer_18 : decode cX7_answer 18 = .ok (.imul, 1) := by decide +kernel
theorem dX7_answer_19 : decode cX7_answer 19 = .ok (.iaload, 1) := by decide +kernel
theorem dX7_answer_20 : decode cX7_answer 20 = .ok (.istore_n 3, 1) := by decide +kernel
theorem dX7_answer_21 : decode cX7_answer 21 = .ok (.aload_n 0, 1) := by decide +kernel
theorem dX7_answer_22 : decode cX7_answer 22 = .ok (.getfield 25, 3) := by decide +kernel
theorem dX7_answer_25 : decode cX7_answer 25 = .ok (.iconst 2, 1) := by decide +kernel
theorem dX7_answer_26 : decode cX7_answer 26 = .ok (.iload_n 2, 1) := by decide +kernel
theorem dX7_answer_27 : decode cX7_answer 27 = .ok (.imul, 1) := by decide +kernel
theorem dX7_answer_28 : decode cX7_answer 28 = .ok (.iconst 1, 1) := by decide +kernel
theorem dX7_answer_29 : decode cX7_answer 29 = .ok (.iadd, 1) := by decide +kernel
theorem dX7_answer_30 : decode cX7_answer 30 = .ok (.iaload, 1) := by decide +kernel
theorem dX7_answer_31 : decode cX7_answer 31 = .ok (.istore 4, 2) := by decide +kernel
theorem dX7_answer_33 : decode cX7_answer 33 = .ok (.iload 4, 2) := by decide +kernel
theorem dX7_answer_35 : decode cX7_answer 35 = .ok (.aload_n 0, 1) := by decide +kernel
theorem dX7_answer_36 : decode cX7_answer 36 = .ok (.getfield 34, 3) := by decide +kernel
theorem dX7_answer_39 : decode cX7_answer 39 = .ok (.if_icmp .le 30, 3) := by decide +kernel
theorem dX7_answer_42 : decode cX7_answer 42 = .ok (.aload_n 0, 1) := by decide +kernel
theorem dX7_answer_43 : decode cX7_answer 43 = .ok (.getfield 25, 3) := by decide +kernel
theorem dX7_answer_46 : decode cX7_answer 46 = .ok (.iconst 2, 1) := by decide +kernel
theorem dX7_answer_47 : decode cX7_answer 47 = .ok (.iload_n 1, 1) := by decide +kernel
theorem dX7_answer_48 : decode cX7_answer 48 = .ok (.imul, 1) := by decide +kernel
theorem dX7_answer_49 : decode cX7_answer 49 = .ok (.iload_n 3, 1) := by decide +kernel
theorem dX7_answer_50 : decode cX7_answer 50 = .ok (.iastore, 1) := by decide +kernel
theorem dX7_answer_51 : decode cX7_answer 51 = .ok (.aload_n 0, 1) := by decide +kernel
theorem dX7_answer_52 : decode cX7_answer 52 = .ok (.getfield 25, 3) := by decide +kernel
theorem dX7_answer_55 : decode cX7_answer 55 = .ok (.iconst 2, 1) := by decide +kernel
theorem dX7_answer_56 : decode cX7_answer 56 = .ok (.iload_n 1, 1) := by decide +kernel
theorem dX7_answer_57 : decode cX7_answer 57 = .ok (.imul, 1) := by decide +kernel
theorem dX7_answer_58 : decode cX7_answer 58 = .ok (.iconst 1, 1) := by decide +kernel
theorem dX7_answer_59 : decode cX7_answer 59 = .ok (.iadd, 1) := by decide +kernel
theorem dX7_answer_60 : decode cX7_answer 60 = .ok (.iload 4, 2) := by decide +kernel
theorem dX7_answer_62 : decode cX7_answer 62 = .ok (.iastore, 1) := by decide +kernel
theorem dX7_answer_63 : decode cX7_answer 63 = .ok (.iinc 1 1, 3) := by decide +kernel
theorem dX7_answer_66 : decode cX7_answer 66 = .ok (.goto 39, 3) := by decide +kernel
theorem dX7_answer_69 : decode cX7_answer 69 = .ok (.aload_n 0, 1) := by decide +kernel
theorem dX7_answer_70 : decode cX7_answer 70 = .ok (.getfield 22, 3) := by decide +kernel
theorem dX7_answer_73 : decode cX7_answer 73 = .ok (.iconst 4, 1) := by decide +kernel
theorem dX7_answer_74 : decode cX7_answer 74 = .ok (.iload_n 3, 1) := by decide +kernel
theorem dX7_answer_75 : decode cX7_answer 75 = .ok (.imul, 1) := by decide +kernel
theorem dX7_answer_76 : decode cX7_answer 76 = .ok (.iconst 2, 1) := by decide +kernel
theorem dX7_answer_77 : decode cX7_answer 77 = .ok (.iadd, 1) := by decide +kernel
theorem dX7_answer_78 : decode cX7_answer 78 = .ok (.iaload, 1) := by decide +kernel
theorem dX7_answer_79 : decode cX7_answer 79 = .ok (.bipush 8, 2) := by decide +kernel
theorem dX7_answer_81 : decode cX7_answer 81 = .ok (.if_icmp .lt 24, 3) := by decide +kernel
theorem dX7_answer_84 : decode cX7_answer 84 = .ok (.aload_n 0, 1) := by decide +kernel
theorem dX7_answer_85 : decode cX7_answer 85 = .ok (.getfield 22, 3) := by decide +kernel
theorem dX7_answer_88 : decode cX7_answer 88 = .ok (.iconst 4, 1) := by decide +kernel
theorem dX7_answer_89 : decode cX7_answer 89 = .ok (.iload_n 3, 1) := by decide +kernel
theorem dX7_answer_90 : decode cX7_answer 90 = .ok (.imul, 1) := by decide +kernel
theorem dX7_answer_91 : decode cX7_answer 91 = .ok (.iconst 3, 1) := by decide +kernel
theorem dX7_answer_92 : decode cX7_answer 92 = .ok (.iadd, 1) := by decide +kernel
theorem dX7_answer_93 : decode cX7_answer 93 = .ok (.iconst 1, 1) := by decide +kernel
theorem dX7_answer_94 : decode cX7_answer 94 = .ok (.iastore, 1) := by decide +kernel
theorem dX7_answer_95 : decode cX7_answer 95 = .ok (.aload_n 0, 1) := by decide +kernel
theorem dX7_answer_96 : decode cX7_answer 96 = .ok (.dup, 1) := by decide +kernel
theorem dX7_answer_97 : decode cX7_answer 97 = .ok (.getfield 44, 3) := by decide +kernel
theorem dX7_answer_100 : decode cX7_answer 100 = .ok (.iconst 1, 1) := by decide +kernel
theorem dX7_answer_101 : decode cX7_answer 101 = .ok (.iadd, 1) := by decide +kernel
theorem dX7_answer_102 : decode cX7_answer 102 = .ok (.putfield 44, 3) := by decide +kernel
theorem dX7_answer_105 : decode cX7_answer 105 = .ok (.iinc 2 1, 3) := by decide +kernel
theorem dX7_answer_108 : decode cX7_answer 108 = .ok (.goto (-104), 3) := by decide +kernel
theorem dX7_answer_111 : decode cX7_answer 111 = .ok (.aload_n 0, 1) := by decide +kernel
theorem dX7_answer_112 : decode cX7_answer 112 = .ok (.iload_n 1, 1) := by decide +kernel
theorem dX7_answer_113 : decode cX7_answer 113 = .ok (.putfield 38, 3) := by decide +kernel
theorem dX7_answer_116 : decode cX7_answer 116 = .ok (.return_, 1) := by decide +kernel
theorem dX7_pass_0 : decode cX7_pass 0 = .ok (.iconst 0, 1) := by decide +kernel
theorem dX7_pass_1 : decode cX7_pass 1 = .ok (.istore_n 2, 1) := by decide +kernel
theorem dX7_pass_2 : decode cX7_pass 2 = .ok (.iload_n 2, 1) := by decide +kernel
theorem dX7_pass_3 : decode cX7_pass 3 = .ok (.iload_n 1, 1) := by decide +kernel
theorem dX7_pass_4 : decode cX7_pass 4 = .ok (.if_icmp .ge 82, 3) := by decide +kernel
theorem dX7_pass_7 : decode cX7_pass 7 = .ok (.aload_n 0, 1) := by decide +kernel
theorem dX7_pass_8 : decode cX7_pass 8 = .ok (.invokevirtual 78, 3) := by decide +kernel
theorem dX7_pass_11 : decode cX7_pass 11 = .ok (.iconst 0, 1) := by decide +kernel
theorem dX7_pass_12 : decode cX7_pass 12 = .ok (.istore_n 3, 1) := by decide +kernel
theorem dX7_pass_13 : decode cX7_pass 13 = .ok (.iload_n 3, 1) := by decide +kernel
theorem dX7_pass_14 : decode cX7_pass 14 = .ok (.aload_n 0, 1) := by decide +kernel
theorem dX7_pass_15 : decode cX7_pass 15 = .ok (.getfield 3, 3) := by decide +kernel
theorem dX7_pass_18 : decode cX7_pass 18 = .ok (.getfield 55, 3) := by decide +kernel
theorem dX7_pass_21 : decode cX7_pass 21 = .ok (.if_icmp .ge 45, 3) := by decide +kernel
theorem dX7_pass_24 : decode cX7_pass 24 = .ok (.aload_n 0, 1) := by decide +kernel
theorem dX7_pass_25 : decode cX7_pass 25 = .ok (.getfield 34, 3) := by decide +kernel
theorem dX7_pass_28 : decode cX7_pass 28 = .ok (.bipush 6, 2) := by decide +kernel
theorem dX7_pass_30 : decode cX7_pass 30 = .ok (.irem, 1) := by decide +kernel
theorem dX7_pass_31 : decode cX7_pass 31 = .ok (.ifCond .ne 35, 3) := by decide +kernel
theorem dX7_pass_34 : decode cX7_pass 34 = .ok (.aload_n 0, 1) := by decide +kernel
theorem dX7_pass_35 : decode cX7_pass 35 = .ok (.getfield 15, 3) := by decide +kernel
theorem dX7_pass_38 : decode cX7_pass 38 = .ok (.iload_n 3, 1) := by decide +kernel
theorem dX7_pass_39 : decode cX7_pass 39 = .ok (.iconst 0, 1) := by decide +kernel
theorem dX7_pass_40 : decode cX7_pass 40 = .ok (.aload_n 0, 1) := by decide +kernel
theorem dX7_pass_41 : decode cX7_pass 41 = .ok (.getfield 15, 3) := by decide +kernel
theorem dX7_pass_44 : decode cX7_pass 44 = .ok (.iload_n 3, 1) := by decide +kernel
theorem dX7_pass_45 : decode cX7_pass 45 = .ok (.iaload, 1) := by decide +kernel
theorem dX7_pass_46 : decode cX7_pass 46 = .ok (.aload_n 0, 1) := by decide +kernel
theorem dX7_pass_47 : decode cX7_pass 47 = .ok (.getfield 3, 3) := by decide +kernel
theorem dX7_pass_50 : decode cX7_pass 50 = .ok (.getfield 58, 3) := by decide +kernel
theorem dX7_pass_53 : decode cX7_pass 53 = .ok (.iload_n 3, 1) := by decide +kernel
theorem dX7_pass_54 : decode cX7_pass 54 = .ok (.iaload, 1) := by decide +kernel
theorem dX7_pass_55 : decode cX7_pass 55 = .ok (.isub, 1) := by decide +kernel
theorem dX7_pass_56 : decode cX7_pass 56 = .ok (.invokestatic 81, 3) := by decide +kernel
theorem dX7_pass_59 : decode cX7_pass 59 = .ok (.iastore, 1) := by decide +kernel
theorem dX7_pass_60 : decode cX7_pass 60 = .ok (.iinc 3 1, 3) := by decide +kernel
theorem dX7_pass_63 : decode cX7_pass 63 = .ok (.goto (-50), 3) := by decide +kernel
theorem dX7_pass_66 : decode cX7_pass 66 = .ok (.aload_n 0, 1) := by decide +kernel
theorem dX7_pass_67 : decode cX7_pass 67 = .ok (.invokevirtual 87, 3) := by decide +kernel
theorem dX7_pass_70 : decode cX7_pass 70 = .ok (.aload_n 0, 1) := by decide +kernel
theorem dX7_pass_71 : decode cX7_pass 71 = .ok (.dup, 1) := by decide +kernel
theorem dX7_pass_72 : decode cX7_pass 72 = .ok (.getfield 34, 3) := by decide +kernel
theorem dX7_pass_75 : decode cX7_pass 75 = .ok (.iconst 1, 1) := by decide +kernel
theorem dX7_pass_76 : decode cX7_pass 76 = .ok (.iadd, 1) := by decide +kernel
theorem dX7_pass_77 : decode cX7_pass 77 = .ok (.putfield 34, 3) := by decide +kernel
theorem dX7_pass_80 : decode cX7_pass 80 = .ok (.iinc 2 1, 3) := by decide +kernel
theorem dX7_pass_83 : decode cX7_pass 83 = .ok (.goto (-81), 3) := by decide +kernel
theorem dX7_pass_86 : decode cX7_pass 86 = .ok (.return_, 1) := by decide +kernel
theorem dX7_hasCard_0 : decode cX7_hasCard 0 = .ok (.iconst 0, 1) := by decide +kernel
theorem dX7_hasCard_1 : decode cX7_hasCard 1 = .ok (.istore_n 3, 1) := by decide +kernel
theorem dX7_hasCard_2 : decode cX7_hasCard 2 = .ok (.iload_n 3, 1) := by decide +kernel
theorem dX7_hasCard_3 : decode cX7_hasCard 3 = .ok (.aload_n 0, 1) := by decide +kernel
theorem dX7_hasCard_4 : decode cX7_hasCard 4 = .ok (.getfield 19, 3) := by decide +kernel
theorem dX7_hasCard_7 : decode cX7_hasCard 7 = .ok (.iload_n 1, 1) := by decide +kernel
theorem dX7_hasCard_8 : decode cX7_hasCard 8 = .ok (.iaload, 1) := by decide +kernel
theorem dX7_hasCard_9 : decode cX7_hasCard 9 = .ok (.if_icmp .ge 47, 3) := by decide +kernel
theorem dX7_hasCard_12 : decode cX7_hasCard 12 = .ok (.iconst 4, 1) := by decide +kernel
theorem dX7_hasCard_13 : decode cX7_hasCard 13 = .ok (.bipush 40, 2) := by decide +kernel
theorem dX7_hasCard_15 : decode cX7_hasCard 15 = .ok (.iload_n 1, 1) := by decide +kernel
theorem dX7_hasCard_16 : decode cX7_hasCard 16 = .ok (.imul, 1) := by decide +kernel
theorem dX7_hasCard_17 : decode cX7_hasCard 17 = .ok (.iload_n 3, 1) := by decide +kernel
theorem dX7_hasCard_18 : decode cX7_hasCard 18 = .ok (.iadd, 1) := by decide +kernel
theorem dX7_hasCard_19 : decode cX7_hasCard 19 = .ok (.imul, 1) := by decide +kernel
theorem dX7_hasCard_20 : decode cX7_hasCard 20 = .ok (.istore 4, 2) := by decide +kernel
theorem dX7_hasCard_22 : decode cX7_hasCard 22 = .ok (.aload_n 0, 1) := by decide +kernel
theorem dX7_hasCard_23 : decode cX7_hasCard 23 = .ok (.getfield 22, 3) := by decide +kernel
theorem dX7_hasCard_26 : decode cX7_hasCard 26 = .ok (.iload 4, 2) := by decide +kernel
theorem dX7_hasCard_28 : decode cX7_hasCard 28 = .ok (.iconst 1, 1) := by decide +kernel
theorem dX7_hasCard_29 : decode cX7_hasCard 29 = .ok (.iadd, 1) := by decide +kernel
theorem dX7_hasCard_30 : decode cX7_hasCard 30 = .ok (.iaload, 1) := by decide +kernel
theorem dX7_hasCard_31 : decode cX7_hasCard 31 = .ok (.iload_n 2, 1) := by decide +kernel
theorem dX7_hasCard_32 : decode cX7_hasCard 32 = .ok (.if_icmp .ne 18, 3) := by decide +kernel
theorem dX7_hasCard_35 : decode cX7_hasCard 35 = .ok (.aload_n 0, 1) := by decide +kernel
theorem dX7_hasCard_36 : decode cX7_hasCard 36 = .ok (.getfield 22, 3) := by decide +kernel
theorem dX7_hasCard_39 : decode cX7_hasCard 39 = .ok (.iload 4, 2) := by decide +kernel
theorem dX7_hasCard_41 : decode cX7_hasCard 41 = .ok (.iconst 3, 1) := by decide +kernel
theorem dX7_hasCard_42 : decode cX7_hasCard 42 = .ok (.iadd, 1) := by decide +kernel
theorem dX7_hasCard_43 : decode cX7_hasCard 43 = .ok (.iaload, 1) := by decide +kernel
theorem dX7_hasCard_44 : decode cX7_hasCard 44 = .ok (.iconst 1, 1) := by decide +kernel
theorem dX7_hasCard_45 : decode cX7_hasCard 45 = .ok (.if_icmp .ne 5, 3) := by decide +kernel
theorem dX7_hasCard_48 : decode cX7_hasCard 48 = .ok (.iconst 1, 1) := by decide +kernel
theorem dX7_hasCard_49 : decode cX7_hasCard 49 = .ok (.ireturn, 1) := by decide +kernel
theorem dX7_hasCard_50 : decode cX7_hasCard 50 = .ok (.iinc 3 1, 3) := by decide +kernel
theorem dX7_hasCard_53 : decode cX7_hasCard 53 = .ok (.goto (-51), 3) := by decide +kernel
theorem dX7_hasCard_56 : decode cX7_hasCard 56 = .ok (.iconst 0, 1) := by decide +kernel
theorem dX7_hasCard_57 : decode cX7_hasCard 57 = .ok (.ireturn, 1) := by decide +kernel
theorem dX8_init_0 : decode cX8_init 0 = .ok (.aload_n 0, 1) := by decide +kernel
theorem dX8_init_1 : decode cX8_init 1 = .ok (.invokespecial 1, 3) := by decide +kernel
theorem dX8_init_4 : decode cX8_init 4 = .ok (.aload_n 0, 1) := by decide +kernel
theorem dX8_init_5 : decode cX8_init 5 = .ok (.bipush 72, 2) := by decide +kernel
theorem dX8_init_7 : decode cX8_init 7 = .ok (.newarray .int, 2) := by decide +kernel
theorem dX8_init_9 : decode cX8_init 9 = .ok (.putfield 9, 3) := by decide +kernel
theorem dX8_init_12 : decode cX8_init 12 = .ok (.aload_n 0, 1) := by decide +kernel
theorem dX8_init_13 : decode cX8_init 13 = .ok (.bipush 8, 2) := by decide +kernel
theorem dX8_init_15 : decode cX8_init 15 = .ok (.newarray .int, 2) := by decide +kernel
theorem dX8_init_17 : decode cX8_init 17 = .ok (.putfield 13, 3) := by decide +kernel
theorem dX8_init_20 : decode cX8_init 20 = .ok (.aload_n 0, 1) := by decide +kernel
theorem dX8_init_21 : decode cX8_init 21 = .ok (.bipush 8, 2) := by decide +kernel
theorem dX8_init_23 : decode cX8_init 23 = .ok (.newarray .int, 2) := by decide +kernel
theorem dX8_init_25 : decode cX8_init 25 = .ok (.putfield 16, 3) := by decide +kernel
theorem dX8_init_28 : decode cX8_init 28 = .ok (.aload_n 0, 1) := by decide +kernel
theorem dX8_init_29 : decode cX8_init 29 = .ok (.bipush 8, 2) := by decide +kernel
theorem dX8_init_31 : decode cX8_init 31 = .ok (.newarray .int, 2) := by decide +kernel
theorem dX8_init_33 : decode cX8_init 33 = .ok (.putfield 19, 3) := by decide +kernel
theorem dX8_init_36 : decode cX8_init 36 = .ok (.aload_n 0, 1) := by decide +kernel
theorem dX8_init_37 : decode cX8_init 37 = .ok (.bipush 8, 2) := by decide +kernel
theorem dX8_init_39 : decode cX8_init 39 = .ok (.newarray .int, 2) := by decide +kernel
theorem dX8_init_41 : decode cX8_init 41 = .ok (.putfield 22, 3) := by decide +kernel
theorem dX8_init_44 : decode cX8_init 44 = .ok (.aload_n 0, 1) := by decide +kernel
theorem dX8_init_45 : decode cX8_init 45 = .ok (.new 25, 3) := by decide +kernel
theorem dX8_init_48 : decode cX8_init 48 = .ok (.dup, 1) := by decide +kernel
theorem dX8_init_49 : decode cX8_init 49 = .ok (.aload_n 0, 1) := by decide +kernel
theorem dX8_init_50 : decode cX8_init 50 = .ok (.invokespecial 27, 3) := by decide +kernel
theorem dX8_init_53 : decode cX8_init 53 = .ok (.putfield 30, 3) := by decide +kernel
theorem dX8_init_56 : decode cX8_init 56 = .ok (.aload_n 0, 1) := by decide +kernel
theorem dX8_init_57 : decode cX8_init 57 = .ok (.new 25, 3) := by decide +kernel
theorem dX8_init_60 : decode cX8_init 60 = .ok (.dup, 1) := by decide +kernel
theorem dX8_init_61 : decode cX8_init 61 = .ok (.aload_n 0, 1) := by decide +kernel
theorem dX8_init_62 : decode cX8_init 62 = .ok (.invokespecial 27, 3) := by decide +kernel
theorem dX8_init_65 : decode cX8_init 65 = .ok (.putfield 34, 3) := by decide +kernel
theorem dX8_init_68 : decode cX8_init 68 = .ok (.return_, 1) := by decide +kernel
theorem dX8_thrown_0 : decode cX8_thrown 0 = .ok (.aload_n 0, 1) := by decide +kernel
theorem dX8_thrown_1 : decode cX8_thrown 1 = .ok (.getfield 37, 3) := by decide +kernel
theorem dX8_thrown_4 : decode cX8_thrown 4 = .ok (.ireturn, 1) := by decide +kernel
theorem dX8_no_0 : decode cX8_no 0 = .ok (.aload_n 0, 1) := by decide +kernel
theorem dX8_no_1 : decode cX8_no 1 = .ok (.iload_n 1, 1) := by decide +kernel
theorem dX8_no_2 : decode cX8_no 2 = .ok (.putfield 37, 3) := by decide +kernel
theorem dX8_no_5 : decode cX8_no 5 = .ok (.iconst 0, 1) := by decide +kernel
theorem dX8_no_6 : decode cX8_no 6 = .ok (.ireturn, 1) := by decide +kernel
theorem dX8_isIn_0 : decode cX8_isIn 0 = .ok (.iload_n 0, 1) := by decide +kernel
theorem dX8_isIn_1 : decode cX8_isIn 1 = .ok (.iload_n 1, 1) := by decide +kernel
theorem dX8_isIn_2 : decode cX8_isIn 2 = .ok (.if_icmp .lt 12, 3) := by decide +kernel
theorem dX8_isIn_5 : decode cX8_isIn 5 = .ok (.iload_n 0, 1) := by decide +kernel
theorem dX8_isIn_6 : decode cX8_isIn 6 = .ok (.iload_n 2, 1) := by decide +kernel
theorem dX8_isIn_7 : decode cX8_isIn 7 = .ok (.if_icmp .gt 7, 3) := by decide +kernel
theorem dX8_isIn_10 : decode cX8_isIn 10 = .ok (.iconst 1, 1) := by decide +kernel
theorem dX8_isIn_11 : decode cX8_isIn 11 = .ok (.goto 4, 3) := by decide +kernel
theorem dX8_isIn_14 : decode cX8_isIn 14 = .ok (.iconst 0, 1) := by decide +kernel
theorem dX8_isIn_15 : decode cX8_isIn 15 = .ok (.ireturn, 1) := by decide +kernel
theorem dX8_isStation_0 : decode cX8_isStation 0 = .ok (.iload_n 1, 1) := by decide +kernel
theorem dX8_isStation_1 : decode cX8_isStation 1 = .ok (.iconst 0, 1) := by decide +kernel
theorem dX8_isStation_2 : decode cX8_isStation 2 = .ok (.aload_n 0, 1) := by decide +kernel
theorem dX8_isStation_3 : decode cX8_isStation 3 = .ok (.getfield 41, 3) := by decide +kernel
theorem dX8_isStation_6 : decode cX8_isStation 6 = .ok (.iconst 1, 1) := by decide +kernel
theorem dX8_isStation_7 : decode cX8_isStation 7 = .ok (.isub, 1) := by decide +kernel
theorem dX8_isStation_8 : decode cX8_isStation 8 = .ok (.invokestatic 44, 3) := by decide +kernel
theorem dX8_isStation_11 : decode cX8_isStation 11 = .ok (.ireturn, 1) := by decide +kernel
theorem dX8_isMember_0 : decode cX8_isMember 0 = .ok (.iload_n 1, 1) := by decide +kernel
theorem dX8_isMember_1 : decode cX8_isMember 1 = .ok (.iconst 0, 1) := by decide +kernel
theorem dX8_isMember_2 : decode cX8_isMember 2 = .ok (.aload_n 0, 1) := by decide +kernel
theorem dX8_isMember_3 : decode cX8_isMember 3 = .ok (.getfield 48, 3) := by decide +kernel
theorem dX8_isMember_6 : decode cX8_isMember 6 = .ok (.iconst 1, 1) := by decide +kernel
theorem dX8_isMember_7 : decode cX8_isMember 7 = .ok (.isub, 1) := by decide +kernel
theorem dX8_isMember_8 : decode cX8_isMember 8 = .ok (.invokestatic 44, 3) := by decide +kernel
theorem dX8_isMember_11 : decode cX8_isMember 11 = .ok (.ireturn, 1) := by decide +kernel
theorem dX8_isLine_0 : decode cX8_isLine 0 = .ok (.aload_n 0, 1) := by decide +kernel
theorem dX8_isLine_1 : decode cX8_isLine 1 = .ok (.iload_n 1, 1) := by decide +kernel
theorem dX8_isLine_2 : decode cX8_isLine 2 = .ok (.invokevirtual 51, 3) := by decide +kernel
theorem dX8_isLine_5 : decode cX8_isLine 5 = .ok (.ifCond .eq 26, 3) := by decide +kernel
theorem dX8_isLine_8 : decode cX8_isLine 8 = .ok (.iload_n 2, 1) := by decide +kernel
theorem dX8_isLine_9 : decode cX8_isLine 9 = .ok (.iconst 0, 1) := by decide +kernel
theorem dX8_isLine_10 : decode cX8_isLine 10 = .ok (.aload_n 0, 1) := by decide +kernel
theorem dX8_isLine_11 : decode cX8_isLine 11 = .ok (.getfield 30, 3) := by decide +kernel
theorem dX8_isLine_14 : decode cX8_isLine 14 = .ok (.getfield 55, 3) := by decide +kernel
theorem dX8_isLine_17 : decode cX8_isLine 17 = .ok (.iload_n 1, 1) := by decide +kernel
theorem dX8_isLine_18 : decode cX8_isLine 18 = .ok (.iaload, 1) := by decide +kernel
theorem dX8_isLine_19 : decode cX8_isLine 19 = .ok (.iconst 1, 1) := by decide +kernel
theorem dX8_isLine_20 : decode cX8_isLine 20 = .ok (.isub, 1) := by decide +kernel
theorem dX8_isLine_21 : decode cX8_isLine 21 = .ok (.invokestatic 44, 3) := by decide +kernel
theorem dX8_isLine_24 : decode cX8_isLine 24 = .ok (.ifCond .eq 7, 3) := by decide +kernel
theorem dX8_isLine_27 : decode cX8_isLine 27 = .ok (.iconst 1, 1) := by decide +kernel
theorem dX8_isLine_28 : decode cX8_isLine 28 = .ok (.goto 4, 3) := by decide +kernel
theorem dX8_isLine_31 : decode cX8_isLine 31 = .ok (.iconst 0, 1) := by decide +kernel
theorem dX8_isLine_32 : decode cX8_isLine 32 = .ok (.ireturn, 1) := by decide +kernel
theorem dX8_tuned_0 : decode cX8_tuned 0 = .ok (.ldc 58, 2) := by decide +kernel
theorem dX8_tuned_2 : decode cX8_tuned 2 = .ok (.iload_n 0, 1) := by decide +kernel
theorem dX8_tuned_3 : decode cX8_tuned 3 = .ok (.iload_n 1, 1) := by decide +kernel
theorem dX8_tuned_4 : decode cX8_tuned 4 = .ok (.iadd, 1) := by decide +kernel
theorem dX8_tuned_5 : decode cX8_tuned 5 = .ok (.idiv, 1) := by decide +kernel
theorem dX8_tuned_6 : decode cX8_tuned 6 = .ok (.ireturn, 1) := by decide +kernel
theorem dX8_width_0 : decode cX8_width 0 = .ok (.bipush 10, 2) := by decide +kernel
theorem dX8_width_2 : decode cX8_width 2 = .ok (.bipush 80, 2) := by decide +kernel
theorem dX8_width_4 : decode cX8_width 4 = .ok (.iload_n 0, 1) := by decide +kernel
theorem dX8_width_5 : decode cX8_width 5 = .ok (.iconst 3, 1) := by decide +kernel
theorem dX8_width_6 : decode cX8_width 6 = .ok (.idiv, 1) := by decide +kernel
theorem dX8_width_7 : decode cX8_width 7 = .ok (.isub, 1) := by decide +kernel
theorem dX8_width_8 : decode cX8_width 8 = .ok (.invokestatic 59, 3) := by decide +kernel
theorem dX8_width_11 : decode cX8_width 11 = .ok (.ireturn, 1) := by decide +kernel
theorem dX8_fading_0 : decode cX8_fading 0 = .ok (.iconst 4, 1) := by decide +kernel
theorem dX8_fading_1 : decode cX8_fading 1 = .ok (.bipush 6, 2) := by decide +kernel
theorem dX8_fading_3 : decode cX8_fading 3 = .ok (.iload_n 2, 1) := by decide +kernel
theorem dX8_fading_4 : decode cX8_fading 4 = .ok (.aload_n 0, 1) := by decide +kernel
theorem dX8_fading_5 : decode cX8_fading 5 = .ok (.getfield 9, 3) := by decide +kernel
theorem dX8_fading_8 : decode cX8_fading 8 = .ok (.bipush 6, 2) := by decide +kernel
theorem dX8_fading_10 : decode cX8_fading 10 = .ok (.iload_n 1, 1) := by decide +kernel
theorem dX8_fading_11 : decode cX8_fading 11 = .ok (.imul, 1) := by decide +kernel
theorem dX8_fading_12 : decode cX8_fading 12 = .ok (.iconst 5, 1) := by decide +kernel
theorem dX8_fading_13 : decode cX8_fading 13 = .ok (.iadd, 1) := by decide +kernel
theorem dX8_fading_14 : decode cX8_fading 14 = .ok (.iaload, 1) := by decide +kernel
theorem dX8_fading_15 : decode cX8_fading 15 = .ok (.iadd, 1) := by decide +kernel
theorem dX8_fading_16 : decode cX8_fading 16 = .ok (.bipush 12, 2) := by decide +kernel
theorem dX8_fading_18 : decode cX8_fading 18 = .ok (.irem, 1) := by decide +kernel
theorem dX8_fading_19 : decode cX8_fading 19 = .ok (.isub, 1) := by decide +kernel
theorem dX8_fading_20 : decode cX8_fading 20 = .ok (.invokestatic 65, 3) := by decide +kernel
theorem dX8_fading_23 : decode cX8_fading 23 = .ok (.iadd, 1) := by decide +kernel
theorem dX8_fading_24 : decode cX8_fading 24 = .ok (.ireturn, 1) := by decide +kernel
theorem dX8_onAir_0 : decode cX8_onAir 0 = .ok (.iconst 0, 1) := by decide +kernel
theorem dX8_onAir_1 : decode cX8_onAir 1 = .ok (.istore_n 2, 1) := by decide +kernel
theorem dX8_onAir_2 : decode cX8_onAir 2 = .ok (.iconst 0, 1) := by decide +kernel
theorem dX8_onAir_3 : decode cX8_onAir 3 = .ok (.istore_n 3, 1) := by decide +kernel
theorem dX8_onAir_4 : decode cX8_onAir 4 = .ok (.iload_n 3, 1) := by decide +kernel
theorem dX8_onAir_5 : decode cX8_onAir 5 = .ok (.aload_n 0, 1) := by decide +kernel
theorem dX8_onAir_6 : decode cX8_onAir 6 = .ok (.getfield 41, 3) := by decide +kernel
theorem dX8_onAir_9 : decode cX8_onAir 9 = .ok (.if_icmp .ge 48, 3) := by decide +kernel
theorem dX8_onAir_12 : decode cX8_onAir 12 = .ok (.iload_n 1, 1) := by decide +kernel
theorem dX8_onAir_13 : decode cX8_onAir 13 = .ok (.bipush 24, 2) := by decide +kernel
theorem dX8_onAir_15 : decode cX8_onAir 15 = .ok (.iadd, 1) := by decide +kernel
theorem dX8_onAir_16 : decode cX8_onAir 16 = .ok (.aload_n 0, 1) := by decide +kernel
theorem dX8_onAir_17 : decode cX8_onAir 17 = .ok (.getfield 9, 3) := by decide +kernel
theorem dX8_onAir_20 : decode cX8_onAir 20 = .ok (.bipush 6, 2) := by decide +kernel
theorem dX8_onAir_22 : decode cX8_onAir 22 = .ok (.iload_n 3, 1) := by decide +kernel
theorem dX8_onAir_23 : decode cX8_onAir 23 = .ok (.imul, 1) := by decide +kernel
theorem dX8_onAir_24 : decode cX8_onAir 24 = .ok (.iconst 3, 1) := by decide +kernel
theorem dX8_onAir_25 : decode cX8_onAir 25 = .ok (.iadd, 1) := by decide +kernel
theorem dX8_onAir_26 : decode cX8_onAir 26 = .ok (.iaload, 1) := by decide +kernel
theorem dX8_onAir_27 : decode cX8_onAir 27 = .ok (.isub, 1) := by decide +kernel
theorem dX8_onAir_28 : decode cX8_onAir 28 = .ok (.bipush 24, 2) := by decide +kernel
theorem dX8_onAir_30 : decode cX8_onAir 30 = .ok (.irem, 1) := by decide +kernel
theorem dX8_onAir_31 : decode cX8_onAir 31 = .ok (.aload_n 0, 1) := by decide +kernel
theorem dX8_onAir_32 : decode cX8_onAir 32 = .ok (.getfield 9, 3) := by decide +kernel
theorem dX8_onAir_35 : decode cX8_onAir 35 = .ok (.bipush 6, 2) := by decide +kernel
theorem dX8_onAir_37 : decode cX8_onAir 37 = .ok (.iload_n 3, 1) := by decide +kernel
theorem dX8_onAir_38 : decode cX8_onAir 38 = .ok (.imul, 1) := by decide +kernel
theorem dX8_onAir_39 : decode cX8_onAir 39 = .ok (.iconst 4, 1) := by decide +kernel
theorem dX8_onAir_40 : decode cX8_onAir 40 = .ok (.iadd, 1) := by decide +kernel
theorem dX8_onAir_41 : decode cX8_onAir 41 = .ok (.iaload, 1) := by decide +kernel
theorem dX8_onAir_42 : decode cX8_onAir 42 = .ok (.if_icmp .ge 9, 3) := by decide +kernel
theorem dX8_onAir_45 : decode cX8_onAir 45 = .ok (.iload_n 2, 1) := by decide +kernel
theorem dX8_onAir_46 : decode cX8_onAir 46 = .ok (.iconst 1, 1) := by decide +kernel
theorem dX8_onAir_47 : decode cX8_onAir 47 = .ok (.iload_n 3, 1) := by decide +kernel
theorem dX8_onAir_48 : decode cX8_onAir 48 = .ok (.ishl, 1) := by decide +kernel
theorem dX8_onAir_49 : decode cX8_onAir 49 = .ok (.ior, 1) := by decide +kernel
theorem dX8_onAir_50 : decode cX8_onAir 50 = .ok (.istore_n 2, 1) := by decide +kernel
theorem dX8_onAir_51 : decode cX8_onAir 51 = .ok (.iinc 3 1, 3) := by decide +kernel
theorem dX8_onAir_54 : decode cX8_onAir 54 = .ok (.goto (-50), 3) := by decide +kernel
theorem dX8_onAir_57 : decode cX8_onAir 57 = .ok (.iload_n 2, 1) := by decide +kernel
theorem dX8_onAir_58 : decode cX8_onAir 58 = .ok (.ireturn, 1) := by decide +kernel
theorem dX8_reach_0 : decode cX8_reach 0 = .ok (.iload 4, 2) := by decide +kernel
theorem dX8_reach_2 : decode cX8_reach 2 = .ok (.invokestatic 69, 3) := by decide +kernel
theorem dX8_reach_5 : decode cX8_reach 5 = .ok (.istore 7, 2) := by decide +kernel
theorem dX8_reach_7 : decode cX8_reach 7 = .ok (.aload_n 0, 1) := by decide +kernel
theorem dX8_reach_8 : decode cX8_reach 8 = .ok (.getfield 9, 3) := by decide +kernel
theorem dX8_reach_11 : decode cX8_reach 11 = .ok (.bipush 6, 2) := by decide +kernel
theorem dX8_reach_13 : decode cX8_reach 13 = .ok (.iload_n 2, 1) := by decide +kernel
theorem dX8_reach_14 : decode cX8_reach 14 = .ok (.imul, 1) := by decide +kernel
theorem dX8_reach_15 : decode cX8_reach 15 = .ok (.iaload, 1) := by decide +kernel
theorem dX8_reach_16 : decode cX8_reach 16 = .ok (.iload 4, 2) := by decide +kernel
theorem dX8_reach_18 : decode cX8_reach 18 = .ok (.iload 5, 2) := by decide +kernel
theorem dX8_reach_20 : decode cX8_reach 20 = .ok (.invokestatic 72, 3) := by decide +kernel
theorem dX8_reach_23 : decode cX8_reach 23 = .ok (.isub, 1) := by decide +kernel
theorem dX8_reach_24 : decode cX8_reach 24 = .ok (.invokestatic 65, 3) := by decide +kernel
theorem dX8_reach_27 : decode cX8_reach 27 = .ok (.istore 8, 2) := by decide +kernel
theorem dX8_reach_29 : decode cX8_reach 29 = .ok (.iload 8, 2) := by decide +kernel
theorem dX8_reach_31 : decode cX8_reach 31 = .ok (.iload 7, 2) := by decide +kernel
theorem dX8_reach_33 : decode cX8_reach 33 = .ok (.if_icmp .lt 5, 3) := by decide +kernel
theorem dX8_reach_36 : decode cX8_reach 36 = .ok (.iconst 0, 1) := by decide +kernel
theorem dX8_reach_37 : decode cX8_reach 37 = .ok (.ireturn, 1) := by decide +kernel
theorem dX8_reach_38 : decode cX8_reach 38 = .ok (.aload_n 0, 1) := by decide +kernel
theorem dX8_reach_39 : decode cX8_reach 39 = .ok (.getfield 9, 3) := by decide +kernel
theorem dX8_reach_42 : decode cX8_reach 42 = .ok (.bipush 6, 2) := by decide +kernel
theorem dX8_reach_44 : decode cX8_reach 44 = .ok (.iload_n 2, 1) := by decide +kernel
theorem dX8_reach_45 : decode cX8_reach 45 = .ok (.imul, 1) := by decide +kernel
theorem dX8_reach_46 : decode cX8_reach 46 = .ok (.iconst 1, 1) := by decide +kernel
theorem dX8_reach_47 : decode cX8_reach 47 = .ok (.iadd, 1) := by decide +kernel
theorem dX8_reach_48 : decode cX8_reach 48 = .ok (.iaload, 1) := by decide +kernel
theorem dX8_reach_49 : decode cX8_reach 49 = .ok (.aload_n 0, 1) := by decide +kernel
theorem dX8_reach_50 : decode cX8_reach 50 = .ok (.iload_n 2, 1) := by decide +kernel
theorem dX8_reach_51 : decode cX8_reach 51 = .ok (.iload_n 3, 1) := by decide +kernel
theorem dX8_reach_52 : decode cX8_reach 52 = .ok (.invokevirtual 75, 3) := by decide +kernel
theorem dX8_reach_55 : decode cX8_reach 55 = .ok (.imul, 1) := by decide +kernel
theorem dX8_reach_56 : decode cX8_reach 56 = .ok (.aload_n 0, 1) := by decide +kernel
theorem dX8_reach_57 : decode cX8_reach 57 = .ok (.getfield 19, 3) := by decide +kernel
theorem dX8_reach_60 : decode cX8_reach 60 = .ok (.iload_n 1, 1) := by decide +kernel
theorem dX8_reach_61 : decode cX8_reach 61 = .ok (.iaload, 1) := by decide +kernel
theorem dX8_reach_62 : decode cX8_reach 62 = .ok (.imul, 1) := by decide +kernel
theorem dX8_reach_63 : decode cX8_reach 63 = .ok (.bipush 10, 2) := by decide +kernel
theorem dX8_reach_65 : decode cX8_reach 65 = .ok (.aload_n 0, 1) := by decide +kernel
theorem dX8_reach_66 : decode cX8_reach 66 = .ok (.getfield 9, 3) := by decide +kernel
theorem dX8_reach_69 : decode cX8_reach 69 = .ok (.bipush 6, 2) := by decide +kernel
theorem dX8_reach_71 : decode cX8_reach 71 = .ok (.iload_n 2, 1) := by decide +kernel
theorem dX8_reach_72 : decode cX8_reach 72 = .ok (.imul, 1) := by decide +kernel
theorem dX8_reach_73 : decode cX8_reach 73 = .ok (.iconst 2, 1) := by decide +kernel
theorem dX8_reach_74 : decode cX8_reach 74 = .ok (.iadd, 1) := by decide +kernel
theorem dX8_reach_75 : decode cX8_reach 75 = .ok (.iaload, 1) := by decide +kernel
theorem dX8_reach_76 : decode cX8_reach 76 = .ok (.imul, 1) := by decide +kernel
theorem dX8_reach_77 : decode cX8_reach 77 = .ok (.idiv, 1) := by decide +kernel
theorem dX8_reach_78 : decode cX8_reach 78 = .ok (.istore 9, 2) := by decide +kernel
theorem dX8_reach_80 : decode cX8_reach 80 = .ok (.iload 9, 2) := by decide +kernel
theorem dX8_reach_82 : decode cX8_reach 82 = .ok (.iload 7, 2) := by decide +kernel
theorem dX8_reach_84 : decode cX8_reach 84 = .ok (.iload 8, 2) := by decide +kernel
theorem dX8_reach_86 : decode cX8_reach 86 = .ok (.isub, 1) := by decide +kernel
theorem dX8_reach_87 : decode cX8_reach 87 = .ok (.imul, 1) := by decide +kernel
theorem dX8_reach_88 : decode cX8_reach 88 = .ok (.iload 7, 2) := by decide +kernel
theorem dX8_reach_90 : decode cX8_reach 90 = .ok (.idiv, 1) := by decide +kernel
theorem dX8_reach_91 : decode cX8_reach 91 = .ok (.istore 9, 2) := by decide +kernel
theorem dX8_reach_93 : decode cX8_reach 93 = .ok (.iload 9, 2) := by decide +kernel
theorem dX8_reach_95 : decode cX8_reach 95 = .ok (.iconst 1, 1) := by decide +kernel
theorem dX8_reach_96 : decode cX8_reach 96 = .ok (.iload 6, 2) := by decide +kernel
theorem dX8_reach_98 : decode cX8_reach 98 = .ok (.iadd, 1) := by decide +kernel
theorem dX8_reach_99 : decode cX8_reach 99 = .ok (.imul, 1) := by decide +kernel
theorem dX8_reach_100 : decode cX8_reach 100 = .ok (.bipush 10, 2) := by decide +kernel
theorem dX8_reach_102 : decode cX8_reach 102 = .ok (.idiv, 1) := by decide +kernel
theorem dX8_reach_103 : decode cX8_reach 103 = .ok (.ireturn, 1) := by decide +kernel
theorem dX8_heard_0 : decode cX8_heard 0 = .ok (.iconst (-1), 1) := by decide +kernel
theorem dX8_heard_1 : decode cX8_heard 1 = .ok (.istore 7, 2) := by decide +kernel
theorem dX8_heard_3 : decode cX8_heard 3 = .ok (.iconst 0, 1) := by decide +kernel
theorem dX8_heard_4 : decode cX8_heard 4 = .ok (.istore 8, 2) := by decide +kernel
theorem dX8_heard_6 : decode cX8_heard 6 = .ok (.iconst 0, 1) := by decide +kernel
theorem dX8_heard_7 : decode cX8_heard 7 = .ok (.istore 9, 2) := by decide +kernel
theorem dX8_heard_9 : decode cX8_heard 9 = .ok (.iconst 0, 1) := by decide +kernel
theorem dX8_heard_10 : decode cX8_heard 10 = .ok (.istore 10, 2) := by decide +kernel
theorem dX8_heard_12 : decode cX8_heard 12 = .ok (.iconst 0, 1) := by decide +kernel
theorem dX8_heard_13 : decode cX8_heard 13 = .ok (.istore 11, 2) := by decide +kernel
theorem dX8_heard_15 : decode cX8_heard 15 = .ok (.iload 11, 2) := by decide +kernel
theorem dX8_heard_17 : decode cX8_heard 17 = .ok (.aload_n 0, 1) := by decide +kernel
theorem dX8_heard_18 : decode cX8_heard 18 = .ok (.getfield 41, 3) := by decide +kernel
theorem dX8_heard_21 : decode cX8_heard 21 = .ok (.if_icmp .ge 80, 3) := by decide +kernel
theorem dX8_heard_24 : decode cX8_heard 24 = .ok (.iload 6, 2) := by decide +kernel
theorem dX8_heard_26 : decode cX8_heard 26 = .ok (.iload 11, 2) := by decide +kernel
theorem dX8_heard_28 : decode cX8_heard 28 = .ok (.ishr, 1) := by decide +kernel
theorem dX8_heard_29 : decode cX8_heard 29 = .ok (.iconst 1, 1) := by decide +kernel
theorem dX8_heard_30 : decode cX8_heard 30 = .ok (.iand, 1) := by decide +kernel
theorem dX8_heard_31 : decode cX8_heard 31 = .ok (.ifCond .ne 7, 3) := by decide +kernel
theorem dX8_heard_34 : decode cX8_heard 34 = .ok (.iconst 0, 1) := by decide +kernel
theorem dX8_heard_35 : decode cX8_heard 35 = .ok (.goto 16, 3) := by decide +kernel
theorem dX8_heard_38 : decode cX8_heard 38 = .ok (.aload_n 0, 1) := by decide +kernel
theorem dX8_heard_39 : decode cX8_heard 39 = .ok (.iload_n 1, 1) := by decide +kernel
theorem dX8_heard_40 : decode cX8_heard 40 = .ok (.iload 11, 2) := by decide +kernel
theorem dX8_heard_42 : decode cX8_heard 42 = .ok (.iload_n 2, 1) := by decide +kernel
theorem dX8_heard_43 : decode cX8_heard 43 = .ok (.iload_n 3, 1) := by decide +kernel
theorem dX8_heard_44 : decode cX8_heard 44 = .ok (.iload 4, 2) := by decide +kernel
theorem dX8_heard_46 : decode cX8_heard 46 = .ok (.iload 5, 2) := by decide +kernel
theorem dX8_heard_48 : decode cX8_heard 48 = .ok (.invokevirtual 78, 3) := by decide +kernel
theorem dX8_heard_51 : decode cX8_heard 51 = .ok (.istore 12, 2) := by decide +kernel
theorem dX8_heard_53 : decode cX8_heard 53 = .ok (.iload 12, 2) := by decide +kernel
theorem dX8_heard_55 : decode cX8_heard 55 = .ok (.ifCond .ne 6, 3) := by decide +kernel
theorem dX8_heard_58 : decode cX8_heard 58 = .ok (.goto 37, 3) := by decide +kernel
theorem dX8_heard_61 : decode cX8_heard 61 = .ok (.iinc 10 1, 3) := by decide +kernel
theorem dX8_heard_64 : decode cX8_heard 64 = .ok (.iload 12, 2) := by decide +kernel
theorem dX8_heard_66 : decode cX8_heard 66 = .ok (.iload 8, 2) := by decide +kernel
theorem dX8_heard_68 : decode cX8_heard 68 = .ok (.if_icmp .le 18, 3) := by decide +kernel
theorem dX8_heard_71 : decode cX8_heard 71 = .ok (.iload 8, 2) := by decide +kernel
theorem dX8_heard_73 : decode cX8_heard 73 = .ok (.istore 9, 2) := by decide +kernel
theorem dX8_heard_75 : decode cX8_heard 75 = .ok (.iload 12, 2) := by decide +kernel
theorem dX8_heard_77 : decode cX8_heard 77 = .ok (.istore 8, 2) := by decide +kernel
theorem dX8_heard_79 : decode cX8_heard 79 = .ok (.iload 11, 2) := by decide +kernel
theorem dX8_heard_81 : decode cX8_heard 81 = .ok (.istore 7, 2) := by decide +kernel
theorem dX8_heard_83 : decode cX8_heard 83 = .ok (.goto 12, 3) := by decide +kernel
theorem dX8_heard_86 : decode cX8_heard 86 = .ok (.iload 9, 2) := by decide +kernel
theorem dX8_heard_88 : decode cX8_heard 88 = .ok (.iload 12, 2) := by decide +kernel
theorem dX8_heard_90 : decode cX8_heard 90 = .ok (.invokestatic 59, 3) := by decide +kernel
theorem dX8_heard_93 : decode cX8_heard 93 = .ok (.istore 9, 2) := by decide +kernel
theorem dX8_heard_95 : decode cX8_heard 95 = .ok (.iinc 11 1, 3) := by decide +kernel
theorem dX8_heard_98 : decode cX8_heard 98 = .ok (.goto (-83), 3) := by decide +kernel
theorem dX8_heard_101 : decode cX8_heard 101 = .ok (.iload 8, 2) := by decide +kernel
theorem dX8_heard_103 : decode cX8_heard 103 = .ok (.iconst 5, 1) := by decide +kernel
theorem dX8_heard_104 : decode cX8_heard 104 = .ok (.if_icmp .lt 15, 3) := by decide +kernel
theorem dX8_heard_107 : decode cX8_heard 107 = .ok (.iconst 2, 1) := by decide +kernel
theorem dX8_heard_108 : decode cX8_heard 108 = .ok (.iload 9, 2) := by decide +kernel
theorem dX8_heard_110 : decode cX8_heard 110 = .ok (.imul, 1) := by decide +kernel
theorem dX8_heard_111 : decode cX8_heard 111 = .ok (.iload 8, 2) := by decide +kernel
theorem dX8_heard_113 : decode cX8_heard 113 = .ok (.if_icmp .gt 6, 3) := by decide +kernel
theorem dX8_heard_116 : decode cX8_heard 116 = .ok (.iload 7, 2) := by decide +kernel
theorem dX8_heard_118 : decode cX8_heard 118 = .ok (.ireturn, 1) := by decide +kernel
theorem dX8_heard_119 : decode cX8_heard 119 = .ok (.iload 10, 2) := by decide +kernel
theorem dX8_heard_121 : decode cX8_heard 121 = .ok (.iconst 1, 1) := by decide +kernel
theorem dX8_heard_122 : decode cX8_heard 122 = .ok (.if_icmp .le 8, 3) := by decide +kernel
theorem dX8_heard_125 : decode cX8_heard 125 = .ok (.bipush (-2), 2) := by decide +kernel
theorem dX8_heard_127 : decode cX8_heard 127 = .ok (.goto 4, 3) := by decide +kernel
theorem dX8_heard_130 : decode cX8_heard 130 = .ok (.iconst (-1), 1) := by decide +kernel
theorem dX8_heard_131 : decode cX8_heard 131 = .ok (.ireturn, 1) := by decide +kernel
theorem dX8_addStation_0 : decode cX8_addStation 0 = .ok (.aload_n 0, 1) := by decide +kernel
theorem dX8_addStation_1 : decode cX8_addStation 1 = .ok (.iconst 0, 1) := by decide +kernel
theorem dX8_addStation_2 : decode cX8_addStation 2 = .ok (.putfield 37, 3) := by decide +kernel
theorem dX8_addStation_5 : decode cX8_addStation 5 = .ok (.iload_n 1, 1) := by decide +kernel
theorem dX8_addStation_6 : decode cX8_addStation 6 = .ok (.sipush 300, 3) := by decide +kernel
theorem dX8_addStation_9 : decode cX8_addStation 9 = .ok (.sipush 3000, 3) := by decide +kernel
theorem dX8_addStation_12 : decode cX8_addStation 12 = .ok (.invokestatic 44, 3) := by decide +kernel
theorem dX8_addStation_15 : decode cX8_addStation 15 = .ok (.ifCond .eq 56, 3) := by decide +kernel
theorem dX8_addStation_18 : decode cX8_addStation 18 = .ok (.iload_n 2, 1) := by decide +kernel
theorem dX8_addStation_19 : decode cX8_addStation 19 = .ok (.iconst 1, 1) := by decide +kernel
theorem dX8_addStation_20 : decode cX8_addStation 20 = .ok (.bipush 100, 2) := by decide +kernel
theorem dX8_addStation_22 : decode cX8_addStation 22 = .ok (.invokestatic 44, 3) := by decide +kernel
theorem dX8_addStation_25 : decode cX8_addStation 25 = .ok (.ifCond .eq 46, 3) := by decide +kernel
theorem dX8_addStation_28 : decode cX8_addStation 28 = .ok (.iload_n 3, 1) := by decide +kernel
theorem dX8_addStation_29 : decode cX8_addStation 29 = .ok (.iconst 1, 1) := by decide +kernel
theorem dX8_addStation_30 : decode cX8_addStation 30 = .ok (.bipush 50, 2) := by decide +kernel
theorem dX8_addStation_32 : decode cX8_addStation 32 = .ok (.invokestatic 44, 3) := by decide +kernel
theorem dX8_addStation_35 : decode cX8_addStation 35 = .ok (.ifCond .eq 36, 3) := by decide +kernel
theorem dX8_addStation_38 : decode cX8_addStation 38 = .ok (.iload 4, 2) := by decide +kernel
theorem dX8_addStation_40 : decode cX8_addStation 40 = .ok (.iconst 0, 1) := by decide +kernel
theorem dX8_addStation_41 : decode cX8_addStation 41 = .ok (.bipush 23, 2) := by decide +kernel
theorem dX8_addStation_43 : decode cX8_addStation 43 = .ok (.invokestatic 44, 3) := by decide +kernel
theorem dX8_addStation_46 : decode cX8_addStation 46 = .ok (.ifCond .eq 25, 3) := by decide +kernel
theorem dX8_addStation_49 : decode cX8_addStation 49 = .ok (.iload 5, 2) := by decide +kernel
theorem dX8_addStation_51 : decode cX8_addStation 51 = .ok (.iconst 1, 1) := by decide +kernel
theorem dX8_addStation_52 : decode cX8_addStation 52 = .ok (.bipush 24, 2) := by decide +kernel
theorem dX8_addStation_54 : decode cX8_addStation 54 = .ok (.invokestatic 44, 3) := by decide +kernel
theorem dX8_addStation_57 : decode cX8_addStation 57 = .ok (.ifCond .eq 14, 3) := by decide +kernel
theorem dX8_addStation_60 : decode cX8_addStation 60 = .ok (.iload 6, 2) := by decide +kernel
theorem dX8_addStation_62 : decode cX8_addStation 62 = .ok (.iconst 0, 1) := by decide +kernel
theorem dX8_addStation_63 : decode cX8_addStation 63 = .ok (.bipush 11, 2) := by decide +kernel
theorem dX8_addStation_65 : decode cX8_addStation 65 = .ok (.invokestatic 44, 3) := by decide +kernel
theorem dX8_addStation_68 : decode cX8_addStation 68 = .ok (.ifCond .ne 9, 3) := by decide +kernel
theorem dX8_addStation_71 : decode cX8_addStation 71 = .ok (.aload_n 0, 1) := by decide +kernel
theorem dX8_addStation_72 : decode cX8_addStation 72 = .ok (.iconst 1, 1) := by decide +kernel
theorem dX8_addStation_73 : decode cX8_addStation 73 = .ok (.invokevirtual 82, 3) := by decide +kernel
theorem dX8_addStation_76 : decode cX8_addStation 76 = .ok (.ireturn, 1) := by decide +kernel
theorem dX8_addStation_77 : decode cX8_addStation 77 = .ok (.aload_n 0, 1) := by decide +kernel
theorem dX8_addStation_78 : decode cX8_addStation 78 = .ok (.getfield 41, 3) := by decide +kernel
theorem dX8_addStation_81 : decode cX8_addStation 81 = .ok (.bipush 12, 2) := by decide +kernel
theorem dX8_addStation_83 : decode cX8_addStation 83 = .ok (.if_icmp .ne 9, 3) := by decide +kernel
theorem dX8_addStation_86 : decode cX8_addStation 86 = .ok (.aload_n 0, 1) := by decide +kernel
theorem dX8_addStation_87 : decode cX8_addStation 87 = .ok (.iconst 2, 1) := by decide +kernel
theorem dX8_addStation_88 : decode cX8_addStation 88 = .ok (.invokevirtual 82, 3) := by decide +kernel
theorem dX8_addStation_91 : decode cX8_addStation 91 = .ok (.ireturn, 1) := by decide +kernel
theorem dX8_addStation_92 : decode cX8_addStation 92 = .ok (.bipush 6, 2) := by decide +kernel
theorem dX8_addStation_94 : decode cX8_addStation 94 = .ok (.newarray .int, 2) := by decide +kernel
theorem dX8_addStation_96 : decode cX8_addStation 96 = .ok (.dup, 1) := by decide +kernel
theorem dX8_addStation_97 : decode cX8_addStation 97 = .ok (.iconst 0, 1) := by decide +kernel
theorem dX8_addStation_98 : decode cX8_addStation 98 = .ok (.iload_n 1, 1) := by decide +kernel
theorem dX8_addStation_99 : decode cX8_addStation 99 = .ok (.iastore, 1) := by decide +kernel
theorem dX8_addStation_100 : decode cX8_addStation 100 = .ok (.dup, 1) := by decide +kernel
theorem dX8_addStation_101 : decode cX8_addStation 101 = .ok (.iconst 1, 1) := by decide +kernel
theorem dX8_addStation_102 : decode cX8_addStation 102 = .ok (.iload_n 2, 1) := by decide +kernel
theorem dX8_addStation_103 : decode cX8_addStation 103 = .ok (.iastore, 1) := by decide +kernel
theorem dX8_addStation_104 : decode cX8_addStation 104 = .ok (.dup, 1) := by decide +kernel
theorem dX8_addStation_105 : decode cX8_addStation 105 = .ok (.iconst 2, 1) := by decide +kernel
theorem dX8_addStation_106 : decode cX8_addStation 106 = .ok (.iload_n 3, 1) := by decide +kernel
theorem dX8_addStation_107 : decode cX8_addStation 107 = .ok (.iastore, 1) := by decide +kernel
theorem dX8_addStation_108 : decode cX8_addStation 108 = .ok (.dup, 1) := by decide +kernel
theorem dX8_addStation_109 : decode cX8_addStation 109 = .ok (.iconst 3, 1) := by decide +kernel
theorem dX8_addStation_110 : decode cX8_addStation 110 = .ok (.iload 4, 2) := by decide +kernel
theorem dX8_addStation_112 : decode cX8_addStation 112 = .ok (.iastore, 1) := by decide +kernel
theorem dX8_addStation_113 : decode cX8_addStation 113 = .ok (.dup, 1) := by decide +kernel
theorem dX8_addStation_114 : decode cX8_addStation 114 = .ok (.iconst 4, 1) := by decide +kernel
theorem dX8_addStation_115 : decode cX8_addStation 115 = .ok (.iload 5, 2) := by decide +kernel
theorem dX8_addStation_117 : decode cX8_addStation 117 = .ok (.iastore, 1) := by decide +kernel
theorem dX8_addStation_118 : decode cX8_addStation 118 = .ok (.dup, 1) := by decide +kernel
theorem dX8_addStation_119 : decode cX8_addStation 119 = .ok (.iconst 5, 1) := by decide +kernel
theorem dX8_addStation_120 : decode cX8_addStation 120 = .ok (.iload 6, 2) := by decide +kernel
theorem dX8_addStation_122 : decode cX8_addStation 122 = .ok (.iastore, 1) := by decide +kernel
theorem dX8_addStation_123 : decode cX8_addStation 123 = .ok (.astore 7, 2) := by decide +kernel
theorem dX8_addStation_125 : decode cX8_addStation 125 = .ok (.aload 7, 2) := by decide +kernel
theorem dX8_addStation_127 : decode cX8_addStation 127 = .ok (.iconst 0, 1) := by decide +kernel
theorem dX8_addStation_128 : decode cX8_addStation 128 = .ok (.aload_n 0, 1) := by decide +kernel
theorem dX8_addStation_129 : decode cX8_addStation 129 = .ok (.getfield 9, 3) := by decide +kernel
theorem dX8_addStation_132 : decode cX8_addStation 132 = .ok (.bipush 6, 2) := by decide +kernel
theorem dX8_addStation_134 : decode cX8_addStation 134 = .ok (.aload_n 0, 1) := by decide +kernel
theorem dX8_addStation_135 : decode cX8_addStation 135 = .ok (.getfield 41, 3) := by decide +kernel
theorem dX8_addStation_138 : decode cX8_addStation 138 = .ok (.imul, 1) := by decide +kernel
theorem dX8_addStation_139 : decode cX8_addStation 139 = .ok (.bipush 6, 2) := by decide +kernel
theorem dX8_addStation_141 : decode cX8_addStation 141 = .ok (.invokestatic 85, 3) := by decide +kernel
theorem dX8_addStation_144 : decode cX8_addStation 144 = .ok (.aload_n 0, 1) := by decide +kernel
theorem dX8_addStation_145 : decode cX8_addStation 145 = .ok (.dup, 1) := by decide +kernel
theorem dX8_addStation_146 : decode cX8_addStation 146 = .ok (.getfield 41, 3) := by decide +kernel
theorem dX8_addStation_149 : decode cX8_addStation 149 = .ok (.iconst 1, 1) := by decide +kernel
theorem dX8_addStation_150 : decode cX8_addStation 150 = .ok (.iadd, 1) := by decide +kernel
theorem dX8_addStation_151 : decode cX8_addStation 151 = .ok (.putfield 41, 3) := by decide +kernel
theorem dX8_addStation_154 : decode cX8_addStation 154 = .ok (.aload_n 0, 1) := by decide +kernel
theorem dX8_addStation_155 : decode cX8_addStation 155 = .ok (.getfield 41, 3) := by decide +kernel
theorem dX8_addStation_158 : decode cX8_addStation 158 = .ok (.iconst 1, 1) := by decide +kernel
theorem dX8_addStation_159 : decode cX8_addStation 159 = .ok (.isub, 1) := by decide +kernel
theorem dX8_addStation_160 : decode cX8_addStation 160 = .ok (.ireturn, 1) := by decide +kernel
theorem dX8_join_0 : decode cX8_join 0 = .ok (.aload_n 0, 1) := by decide +kernel
theorem dX8_join_1 : decode cX8_join 1 = .ok (.iconst 0, 1) := by decide +kernel
theorem dX8_join_2 : decode cX8_join 2 = .ok (.putfield 37, 3) := by decide +kernel
theorem dX8_join_5 : decode cX8_join 5 = .ok (.iload_n 1, 1) := by decide +kernel
theorem dX8_join_6 : decode cX8_join 6 = .ok (.bipush 20, 2) := by decide +kernel
theorem dX8_join_8 : decode cX8_join 8 = .ok (.sipush 200, 3) := by decide +kernel
theorem dX8_join_11 : decode cX8_join 11 = .ok (.invokestatic 44, 3) := by decide +kernel
theorem dX8_join_14 : decode cX8_join 14 = .ok (.ifCond .eq 13, 3) := by decide +kernel
theorem dX8_join_17 : decode cX8_join 17 = .ok (.iload_n 2, 1) := by decide +kernel
theorem dX8_join_18 : decode cX8_join 18 = .ok (.iconst 1, 1) := by decide +kernel
theorem dX8_join_19 : decode cX8_join 19 = .ok (.bipush 60, 2) := by decide +kernel
theorem dX8_join_21 : decode cX8_join 21 = .ok (.invokestatic 44, 3) := by decide +kernel
theorem dX8_join_24 : decode cX8_join 24 = .ok (.ifCond .ne 9, 3) := by decide +kernel
theorem dX8_join_27 : decode cX8_join 27 = .ok (.aload_n 0, 1) := by decide +kernel
theorem dX8_join_28 : decode cX8_join 28 = .ok (.iconst 1, 1) := by decide +kernel
theorem dX8_join_29 : decode cX8_join 29 = .ok (.invokevirtual 82, 3) := by decide +kernel
theorem dX8_join_32 : decode cX8_join 32 = .ok (.ireturn, 1) := by decide +kernel
theorem dX8_join_33 : decode cX8_join 33 = .ok (.aload_n 0, 1) := by decide +kernel
theorem dX8_join_34 : decode cX8_join 34 = .ok (.getfield 48, 3) := by decide +kernel
theorem dX8_join_37 : decode cX8_join 37 = .ok (.bipush 8, 2) := by decide +kernel
theorem dX8_join_39 : decode cX8_join 39 = .ok (.if_icmp .ne 9, 3) := by decide +kernel
theorem dX8_join_42 : decode cX8_join 42 = .ok (.aload_n 0, 1) := by decide +kernel
theorem dX8_join_43 : decode cX8_join 43 = .ok (.iconst 2, 1) := by decide +kernel
theorem dX8_join_44 : decode cX8_join 44 = .ok (.invokevirtual 82, 3) := by decide +kernel
theorem dX8_join_47 : decode cX8_join 47 = .ok (.ireturn, 1) := by decide +kernel
theorem dX8_join_48 : decode cX8_join 48 = .ok (.aload_n 0, 1) := by decide +kernel
theorem dX8_join_49 : decode cX8_join 49 = .ok (.getfield 13, 3) := by decide +kernel
theorem dX8_join_52 : decode cX8_join 52 = .ok (.aload_n 0, 1) := by decide +kernel
theorem dX8_join_53 : decode cX8_join 53 = .ok (.getfield 48, 3) := by decide +kernel
theorem dX8_join_56 : decode cX8_join 56 = .ok (.iload_n 1, 1) := by decide +kernel
theorem dX8_join_57 : decode cX8_join 57 = .ok (.iastore, 1) := by decide +kernel
theorem dX8_join_58 : decode cX8_join 58 = .ok (.aload_n 0, 1) := by decide +kernel
theorem dX8_join_59 : decode cX8_join 59 = .ok (.getfield 19, 3) := by decide +kernel
theorem dX8_join_62 : decode cX8_join 62 = .ok (.aload_n 0, 1) := by decide +kernel
theorem dX8_join_63 : decode cX8_join 63 = .ok (.getfield 48, 3) := by decide +kernel
theorem dX8_join_66 : decode cX8_join 66 = .ok (.iload_n 2, 1) := by decide +kernel
theorem dX8_join_67 : decode cX8_join 67 = .ok (.iastore, 1) := by decide +kernel
theorem dX8_join_68 : decode cX8_join 68 = .ok (.aload_n 0, 1) := by decide +kernel
theorem dX8_join_69 : decode cX8_join 69 = .ok (.getfield 22, 3) := by decide +kernel
theorem dX8_join_72 : decode cX8_join 72 = .ok (.aload_n 0, 1) := by decide +kernel
theorem dX8_join_73 : decode cX8_join 73 = .ok (.getfield 48, 3) := by decide +kernel
theorem dX8_join_76 : decode cX8_join 76 = .ok (.iconst 1, 1) := by decide +kernel
theorem dX8_join_77 : decode cX8_join 77 = .ok (.iastore, 1) := by decide +kernel
theorem dX8_join_78 : decode cX8_join 78 = .ok (.aload_n 0, 1) := by decide +kernel
theorem dX8_join_79 : decode cX8_join 79 = .ok (.getfield 30, 3) := by decide +kernel
theorem dX8_join_82 : decode cX8_join 82 = .ok (.getfield 91, 3) := by decide +kernel
theorem dX8_join_85 : decode cX8_join 85 = .ok (.aload_n 0, 1) := by decide +kernel
theorem dX8_join_86 : decode cX8_join 86 = .ok (.getfield 48, 3) := by decide +kernel
theorem dX8_join_89 : decode cX8_join 89 = .ok (.bipush 9, 2) := by decide +kernel
theorem dX8_join_91 : decode cX8_join 91 = .ok (.iastore, 1) := by decide +kernel
theorem dX8_join_92 : decode cX8_join 92 = .ok (.aload_n 0, 1) := by decide +kernel
theorem dX8_join_93 : decode cX8_join 93 = .ok (.dup, 1) := by decide +kernel
theorem dX8_join_94 : decode cX8_join 94 = .ok (.getfield 48, 3) := by decide +kernel
theorem dX8_join_97 : decode cX8_join 97 = .ok (.iconst 1, 1) := by decide +kernel
theorem dX8_join_98 : decode cX8_join 98 = .ok (.iadd, 1) := by decide +kernel
theorem dX8_join_99 : decode cX8_join 99 = .ok (.putfield 48, 3) := by decide +kernel
theorem dX8_join_102 : decode cX8_join 102 = .ok (.aload_n 0, 1) := by decide +kernel
theorem dX8_join_103 : decode cX8_join 103 = .ok (.getfield 48, 3) := by decide +kernel
theorem dX8_join_106 : decode cX8_join 106 = .ok (.iconst 1, 1) := by decide +kernel
theorem dX8_join_107 : decode cX8_join 107 = .ok (.isub, 1) := by decide +kernel
theorem dX8_join_108 : decode cX8_join 108 = .ok (.ireturn, 1) := by decide +kernel
theorem dX8_turn_0 : decode cX8_turn 0 = .ok (.aload_n 0, 1) := by decide +kernel
theorem dX8_turn_1 : decode cX8_turn 1 = .ok (.iconst 0, 1) := by decide +kernel
theorem dX8_turn_2 : decode cX8_turn 2 = .ok (.putfield 37, 3) := by decide +kernel
theorem dX8_turn_5 : decode cX8_turn 5 = .ok (.aload_n 0, 1) := by decide +kernel
theorem dX8_turn_6 : decode cX8_turn 6 = .ok (.iload_n 1, 1) := by decide +kernel
theorem dX8_turn_7 : decode cX8_turn 7 = .ok (.invokevirtual 51, 3) := by decide +kernel
theorem dX8_turn_10 : decode cX8_turn 10 = .ok (.ifCond .ne 9, 3) := by decide +kernel
theorem dX8_turn_13 : decode cX8_turn 13 = .ok (.aload_n 0, 1) := by decide +kernel
theorem dX8_turn_14 : decode cX8_turn 14 = .ok (.iconst 1, 1) := by decide +kernel
theorem dX8_turn_15 : decode cX8_turn 15 = .ok (.invokevirtual 82, 3) := by decide +kernel
theorem dX8_turn_18 : decode cX8_turn 18 = .ok (.ireturn, 1) := by decide +kernel
theorem dX8_turn_19 : decode cX8_turn 19 = .ok (.iload_n 2, 1) := by decide +kernel
theorem dX8_turn_20 : decode cX8_turn 20 = .ok (.iconst 0, 1) := by decide +kernel
theorem dX8_turn_21 : decode cX8_turn 21 = .ok (.bipush 100, 2) := by decide +kernel
theorem dX8_turn_23 : decode cX8_turn 23 = .ok (.invokestatic 44, 3) := by decide +kernel
theorem dX8_turn_26 : decode cX8_turn 26 = .ok (.ifCond .ne 9, 3) := by decide +kernel
theorem dX8_turn_29 : decode cX8_turn 29 = .ok (.aload_n 0, 1) := by decide +kernel
theorem dX8_turn_30 : decode cX8_turn 30 = .ok (.iconst 2, 1) := by decide +kernel
theorem dX8_turn_31 : decode cX8_turn 31 = .ok (.invokevirtual 82, 3) := by decide +kernel
theorem dX8_turn_34 : decode cX8_turn 34 = .ok (.ireturn, 1) := by decide +kernel
theorem dX8_turn_35 : decode cX8_turn 35 = .ok (.aload_n 0, 1) := by decide +kernel
theorem dX8_turn_36 : decode cX8_turn 36 = .ok (.getfield 16, 3) := by decide +kernel
theorem dX8_turn_39 : decode cX8_turn 39 = .ok (.iload_n 1, 1) := by decide +kernel
theorem dX8_turn_40 : decode cX8_turn 40 = .ok (.iaload, 1) := by decide +kernel
theorem dX8_turn_41 : decode cX8_turn 41 = .ok (.istore_n 3, 1) := by decide +kernel
theorem dX8_turn_42 : decode cX8_turn 42 = .ok (.aload_n 0, 1) := by decide +kernel
theorem dX8_turn_43 : decode cX8_turn 43 = .ok (.getfield 16, 3) := by decide +kernel
theorem dX8_turn_46 : decode cX8_turn 46 = .ok (.iload_n 1, 1) := by decide +kernel
theorem dX8_turn_47 : decode cX8_turn 47 = .ok (.iload_n 2, 1) := by decide +kernel
theorem dX8_turn_48 : decode cX8_turn 48 = .ok (.iastore, 1) := by decide +kernel
theorem dX8_turn_49 : decode cX8_turn 49 = .ok (.iload_n 3, 1) := by decide +kernel
theorem dX8_turn_50 : decode cX8_turn 50 = .ok (.ireturn, 1) := by decide +kernel
theorem dX8_wind_0 : decode cX8_wind 0 = .ok (.aload_n 0, 1) := by decide +kernel
theorem dX8_wind_1 : decode cX8_wind 1 = .ok (.iconst 0, 1) := by decide +kernel
theorem dX8_wind_2 : decode cX8_wind 2 = .ok (.putfield 37, 3) := by decide +kernel
theorem dX8_wind_5 : decode cX8_wind 5 = .ok (.aload_n 0, 1) := by decide +kernel
theorem dX8_wind_6 : decode cX8_wind 6 = .ok (.iload_n 1, 1) := by decide +kernel
theorem dX8_wind_7 : decode cX8_wind 7 = .ok (.invokevirtual 51, 3) := by decide +kernel
theorem dX8_wind_10 : decode cX8_wind 10 = .ok (.ifCond .ne 9, 3) := by decide +kernel
theorem dX8_wind_13 : decode cX8_wind 13 = .ok (.aload_n 0, 1) := by decide +kernel
theorem dX8_wind_14 : decode cX8_wind 14 = .ok (.iconst 1, 1) := by decide +kernel
theorem dX8_wind_15 : decode cX8_wind 15 = .ok (.invokevirtual 82, 3) := by decide +kernel
theorem dX8_wind_18 : decode cX8_wind 18 = .ok (.ireturn, 1) := by decide +kernel
theorem dX8_wind_19 : decode cX8_wind 19 = .ok (.iload_n 2, 1) := by decide +kernel
theorem dX8_wind_20 : decode cX8_wind 20 = .ok (.bipush 20, 2) := by decide +kernel
theorem dX8_wind_22 : decode cX8_wind 22 = .ok (.sipush 200, 3) := by decide +kernel
theorem dX8_wind_25 : decode cX8_wind 25 = .ok (.invokestatic 44, 3) := by decide +kernel
theorem dX8_wind_28 : decode cX8_wind 28 = .ok (.ifCond .ne 9, 3) := by decide +kernel
theorem dX8_wind_31 : decode cX8_wind 31 = .ok (.aload_n 0, 1) := by decide +kernel
theorem dX8_wind_32 : decode cX8_wind 32 = .ok (.iconst 2, 1) := by decide +kernel
theorem dX8_wind_33 : decode cX8_wind 33 = .ok (.invokevirtual 82, 3) := by decide +kernel
theorem dX8_wind_36 : decode cX8_wind 36 = .ok (.ireturn, 1) := by decide +kernel
theorem dX8_wind_37 : decode cX8_wind 37 = .ok (.aload_n 0, 1) := by decide +kernel
theorem dX8_wind_38 : decode cX8_wind 38 = .ok (.getfield 13, 3) := by decide +kernel
theorem dX8_wind_41 : decode cX8_wind 41 = .ok (.iload_n 1, 1) := by decide +kernel
theorem dX8_wind_42 : decode cX8_wind 42 = .ok (.iaload, 1) := by decide +kernel
theorem dX8_wind_43 : decode cX8_wind 43 = .ok (.istore_n 3, 1) := by decide +kernel
theorem dX8_wind_44 : decode cX8_wind 44 = .ok (.aload_n 0, 1) := by decide +kernel
theorem dX8_wind_45 : decode cX8_wind 45 = .ok (.getfield 13, 3) := by decide +kernel
theorem dX8_wind_48 : decode cX8_wind 48 = .ok (.iload_n 1, 1) := by decide +kernel
theorem dX8_wind_49 : decode cX8_wind 49 = .ok (.iload_n 2, 1) := by decide +kernel
theorem dX8_wind_50 : decode cX8_wind 50 = .ok (.iastore, 1) := by decide +kernel
theorem dX8_wind_51 : decode cX8_wind 51 = .ok (.iload_n 3, 1) := by decide +kernel
theorem dX8_wind_52 : decode cX8_wind 52 = .ok (.ireturn, 1) := by decide +kernel
theorem dX8_listen_0 : decode cX8_listen 0 = .ok (.aload_n 0, 1) := by decide +kernel
theorem dX8_listen_1 : decode cX8_listen 1 = .ok (.iconst 0, 1) := by decide +kernel
theorem dX8_listen_2 : decode cX8_listen 2 = .ok (.putfield 37, 3) := by decide +kernel
theorem dX8_listen_5 : decode cX8_listen 5 = .ok (.aload_n 0, 1) := by decide +kernel
theorem dX8_listen_6 : decode cX8_listen 6 = .ok (.iload_n 1, 1) := by decide +kernel
theorem dX8_listen_7 : decode cX8_listen 7 = .ok (.invokevirtual 51, 3) := by decide +kernel
theorem dX8_listen_10 : decode cX8_listen 10 = .ok (.ifCond .ne 17, 3) := by decide +kernel
theorem dX8_listen_13 : decode cX8_listen 13 = .ok (.aload_n 0, 1) := by decide +kernel
theorem dX8_listen_14 : decode cX8_listen 14 = .ok (.iconst 1, 1) := by decide +kernel
theorem dX8_listen_15 : decode cX8_listen 15 = .ok (.invokevirtual 82, 3) := by decide +kernel
theorem dX8_listen_18 : decode cX8_listen 18 = .ok (.ifCond .eq 7, 3) := by decide +kernel
theorem dX8_listen_21 : decode cX8_listen 21 = .ok (.iconst 1, 1) := by decide +kernel
theorem dX8_listen_22 : decode cX8_listen 22 = .ok (.goto 4, 3) := by decide +kernel
theorem dX8_listen_25 : decode cX8_listen 25 = .ok (.iconst 0, 1) := by decide +kernel
theorem dX8_listen_26 : decode cX8_listen 26 = .ok (.ireturn, 1) := by decide +kernel
theorem dX8_listen_27 : decode cX8_listen 27 = .ok (.aload_n 0, 1) := by decide +kernel
theorem dX8_listen_28 : decode cX8_listen 28 = .ok (.getfield 22, 3) := by decide +kernel
theorem dX8_listen_31 : decode cX8_listen 31 = .ok (.iload_n 1, 1) := by decide +kernel
theorem dX8_listen_32 : decode cX8_listen 32 = .ok (.iaload, 1) := by decide +kernel
theorem dX8_listen_33 : decode cX8_listen 33 = .ok (.iconst 1, 1) := by decide +kernel
theorem dX8_listen_34 : decode cX8_listen 34 = .ok (.if_icmp .ne 7, 3) := by decide +kernel
theorem dX8_listen_37 : decode cX8_listen 37 = .ok (.iconst 1, 1) := by decide +kernel
theorem dX8_listen_38 : decode cX8_listen 38 = .ok (.goto 4, 3) := by decide +kernel
theorem dX8_listen_41 : decode cX8_listen 41 = .ok (.iconst 0, 1) := by decide +kernel
theorem dX8_listen_42 : decode cX8_listen 42 = .ok (.istore_n 3, 1) := by decide +kernel
theorem dX8_listen_43 : decode cX8_listen 43 = .ok (.aload_n 0, 1) := by decide +kernel
theorem dX8_listen_44 : decode cX8_listen 44 = .ok (.getfield 22, 3) := by decide +kernel
theorem dX8_listen_47 : decode cX8_listen 47 = .ok (.iload_n 1, 1) := by decide +kernel
theorem dX8_listen_48 : decode cX8_listen 48 = .ok (.iload_n 2, 1) := by decide +kernel
theorem dX8_listen_49 : decode cX8_listen 49 = .ok (.ifCond .eq 7, 3) := by decide +kernel
theorem dX8_listen_52 : decode cX8_listen 52 = .ok (.iconst 1, 1) := by decide +kernel
theorem dX8_listen_53 : decode cX8_listen 53 = .ok (.goto 4, 3) := by decide +kernel
theorem dX8_listen_56 : decode cX8_listen 56 = .ok (.iconst 0, 1) := by decide +kernel
theorem dX8_listen_57 : decode cX8_listen 57 = .ok (.iastore, 1) := by decide +kernel
theorem dX8_listen_58 : decode cX8_listen 58 = .ok (.iload_n 3, 1) := by decide +kernel
theorem dX8_listen_59 : decode cX8_listen 59 = .ok (.ireturn, 1) := by decide +kernel
theorem dX8_renew_0 : decode cX8_renew 0 = .ok (.aload_n 0, 1) := by decide +kernel
theorem dX8_renew_1 : decode cX8_renew 1 = .ok (.iconst 0, 1) := by decide +kernel
theorem dX8_renew_2 : decode cX8_renew 2 = .ok (.putfield 37, 3) := by decide +kernel
theorem dX8_renew_5 : decode cX8_renew 5 = .ok (.aload_n 0, 1) := by decide +kernel
theorem dX8_renew_6 : decode cX8_renew 6 = .ok (.iload_n 1, 1) := by decide +kernel
theorem dX8_renew_7 : decode cX8_renew 7 = .ok (.invokevirtual 51, 3) := by decide +kernel
theorem dX8_renew_10 : decode cX8_renew 10 = .ok (.ifCond .ne 9, 3) := by decide +kernel
theorem dX8_renew_13 : decode cX8_renew 13 = .ok (.aload_n 0, 1) := by decide +kernel
theorem dX8_renew_14 : decode cX8_renew 14 = .ok (.iconst 1, 1) := by decide +kernel
theorem dX8_renew_15 : decode cX8_renew 15 = .ok (.invokevirtual 82, 3) := by decide +kernel
theorem dX8_renew_18 : decode cX8_renew 18 = .ok (.ireturn, 1) := by decide +kernel
theorem dX8_renew_19 : decode cX8_renew 19 = .ok (.aload_n 0, 1) := by decide +kernel
theorem dX8_renew_20 : decode cX8_renew 20 = .ok (.getfield 30, 3) := by decide +kernel
theorem dX8_renew_23 : decode cX8_renew 23 = .ok (.getfield 91, 3) := by decide +kernel
theorem dX8_renew_26 : decode cX8_renew 26 = .ok (.iload_n 1, 1) := by decide +kernel
theorem dX8_renew_27 : decode cX8_renew 27 = .ok (.iaload, 1) := by decide +kernel
theorem dX8_renew_28 : decode cX8_renew 28 = .ok (.istore_n 2, 1) := by decide +kernel
theorem dX8_renew_29 : decode cX8_renew 29 = .ok (.aload_n 0, 1) := by decide +kernel
theorem dX8_renew_30 : decode cX8_renew 30 = .ok (.getfield 30, 3) := by decide +kernel
theorem dX8_renew_33 : decode cX8_renew 33 = .ok (.getfield 91, 3) := by decide +kernel
theorem dX8_renew_36 : decode cX8_renew 36 = .ok (.iload_n 1, 1) := by decide +kernel
theorem dX8_renew_37 : decode cX8_renew 37 = .ok (.bipush 9, 2) := by decide +kernel
theorem dX8_renew_39 : decode cX8_renew 39 = .ok (.iastore, 1) := by decide +kernel
theorem dX8_renew_40 : decode cX8_renew 40 = .ok (.iload_n 2, 1) := by decide +kernel
theorem dX8_renew_41 : decode cX8_renew 41 = .ok (.ireturn, 1) := by decide +kernel
theorem dX8_cards_0 : decode cX8_cards 0 = .ok (.iconst 0, 1) := by decide +kernel
theorem dX8_cards_1 : decode cX8_cards 1 = .ok (.istore_n 2, 1) := by decide +kernel
theorem dX8_cards_2 : decode cX8_cards 2 = .ok (.iconst 0, 1) := by decide +kernel
theorem dX8_cards_3 : decode cX8_cards 3 = .ok (.istore_n 3, 1) := by decide +kernel
theorem dX8_cards_4 : decode cX8_cards 4 = .ok (.iload_n 3, 1) := by decide +kernel
theorem dX8_cards_5 : decode cX8_cards 5 = .ok (.aload_n 0, 1) := by decide +kernel
theorem dX8_cards_6 : decode cX8_cards 6 = .ok (.getfield 48, 3) := by decide +kernel
theorem dX8_cards_9 : decode cX8_cards 9 = .ok (.if_icmp .ge 29, 3) := by decide +kernel
theorem dX8_cards_12 : decode cX8_cards 12 = .ok (.iload_n 2, 1) := by decide +kernel
theorem dX8_cards_13 : decode cX8_cards 13 = .ok (.aload_n 0, 1) := by decide +kernel
theorem dX8_cards_14 : decode cX8_cards 14 = .ok (.getfield 30, 3) := by decide +kernel
theorem dX8_cards_17 : decode cX8_cards 17 = .ok (.iload_n 3, 1) := by decide +kernel
theorem dX8_cards_18 : decode cX8_cards 18 = .ok (.iload_n 1, 1) := by decide +kernel
theorem dX8_cards_19 : decode cX8_cards 19 = .ok (.invokevirtual 94, 3) := by decide +kernel
theorem dX8_cards_22 : decode cX8_cards 22 = .ok (.ifCond .eq 7, 3) := by decide +kernel
theorem dX8_cards_25 : decode cX8_cards 25 = .ok (.iconst 1, 1) := by decide +kernel
theorem dX8_cards_26 : decode cX8_cards 26 = .ok (.goto 4, 3) := by decide +kernel
theorem dX8_cards_29 : decode cX8_cards 29 = .ok (.iconst 0, 1) := by decide +kernel
theorem dX8_cards_30 : decode cX8_cards 30 = .ok (.iadd, 1) := by decide +kernel
theorem dX8_cards_31 : decode cX8_cards 31 = .ok (.istore_n 2, 1) := by decide +kernel
theorem dX8_cards_32 : decode cX8_cards 32 = .ok (.iinc 3 1, 3) := by decide +kernel
theorem dX8_cards_35 : decode cX8_cards 35 = .ok (.goto (-31), 3) := by decide +kernel
theorem dX8_cards_38 : decode cX8_cards 38 = .ok (.iload_n 2, 1) := by decide +kernel
theorem dX8_cards_39 : decode cX8_cards 39 = .ok (.ireturn, 1) := by decide +kernel
theorem dX8_stationTold_0 : decode cX8_stationTold 0 = .ok (.iload_n 2, 1) := by decide +kernel
theorem dX8_stationTold_1 : decode cX8_stationTold 1 = .ok (.iconst 3, 1) := by decide +kernel
theorem dX8_stationTold_2 : decode cX8_stationTold 2 = .ok (.if_icmp .ge 15, 3) := by decide +kernel
theorem dX8_stationTold_5 : decode cX8_stationTold 5 = .ok (.aload_n 0, 1) := by decide +kernel
theorem dX8_stationTold_6 : decode cX8_stationTold 6 = .ok (.getfield 9, 3) := by decide +kernel
theorem dX8_stationTold_9 : decode cX8_stationTold 9 = .ok (.bipush 6, 2) := by decide +kernel
theorem dX8_stationTold_11 : decode cX8_stationTold 11 = .ok (.iload_n 1, 1) := by decide +kernel
theorem dX8_stationTold_12 : decode cX8_stationTold 12 = .ok (.imul, 1) := by decide +kernel
theorem dX8_stationTold_13 : decode cX8_stationTold 13 = .ok (.iload_n 2, 1) := by decide +kernel
theorem dX8_stationTold_14 : decode cX8_stationTold 14 = .ok (.iadd, 1) := by decide +kernel
theorem dX8_stationTold_15 : decode cX8_stationTold 15 = .ok (.iaload, 1) := by decide +kernel
theorem dX8_stationTold_16 : decode cX8_stationTold 16 = .ok (.ireturn, 1) := by decide +kernel
theorem dX8_stationTold_17 : decode cX8_stationTold 17 = .ok (.iload_n 2, 1) := by decide +kernel
theorem dX8_stationTold_18 : decode cX8_stationTold 18 = .ok (.iconst 3, 1) := by decide +kernel
theorem dX8_stationTold_19 : decode cX8_stationTold 19 = .ok (.if_icmp .ne 19, 3) := by decide +kernel
theorem dX8_stationTold_22 : decode cX8_stationTold 22 = .ok (.aload_n 0, 1) := by decide +kernel
theorem dX8_stationTold_23 : decode cX8_stationTold 23 = .ok (.aload_n 0, 1) := by decide +kernel
theorem dX8_stationTold_24 : decode cX8_stationTold 24 = .ok (.getfield 30, 3) := by decide +kernel
theorem dX8_stationTold_27 : decode cX8_stationTold 27 = .ok (.getfield 98, 3) := by decide +kernel
theorem dX8_stationTold_30 : decode cX8_stationTold 30 = .ok (.invokevirtual 101, 3) := by decide +kernel
theorem dX8_stationTold_33 : decode cX8_stationTold 33 = .ok (.iload_n 1, 1) := by decide +kernel
theorem dX8_stationTold_34 : decode cX8_stationTold 34 = .ok (.ishr, 1) := by decide +kernel
theorem dX8_stationTold_35 : decode cX8_stationTold 35 = .ok (.iconst 1, 1) := by decide +kernel
theorem dX8_stationTold_36 : decode cX8_stationTold 36 = .ok (.iand, 1) := by decide +kernel
theorem dX8_stationTold_37 : decode cX8_stationTold 37 = .ok (.ireturn, 1) := by decide +kernel
theorem dX8_stationTold_38 : decode cX8_stationTold 38 = .ok (.iload_n 2, 1) := by decide +kernel
theorem dX8_stationTold_39 : decode cX8_stationTold 39 = .ok (.iconst 4, 1) := by decide +kernel
theorem dX8_stationTold_40 : decode cX8_stationTold 40 = .ok (.if_icmp .ne 18, 3) := by decide +kernel
theorem dX8_stationTold_43 : decode cX8_stationTold 43 = .ok (.aload_n 0, 1) := by decide +kernel
theorem dX8_stationTold_44 : decode cX8_stationTold 44 = .ok (.iload_n 1, 1) := by decide +kernel
theorem dX8_stationTold_45 : decode cX8_stationTold 45 = .ok (.aload_n 0, 1) := by decide +kernel
theorem dX8_stationTold_46 : decode cX8_stationTold 46 = .ok (.getfield 30, 3) := by decide +kernel
theorem dX8_stationTold_49 : decode cX8_stationTold 49 = .ok (.getfield 98, 3) := by decide +kernel
theorem dX8_stationTold_52 : decode cX8_stationTold 52 = .ok (.invokevirtual 75, 3) := by decide +kernel
theorem dX8_stationTold_55 : decode cX8_stationTold 55 = .ok (.goto 8, 3) := by decide +kernel
theorem dX8_stationTold_58 : decode cX8_stationTold 58 = .ok (.aload_n 0, 1) := by decide +kernel
theorem dX8_stationTold_59 : decode cX8_stationTold 59 = .ok (.iload_n 1, 1) := by decide +kernel
theorem dX8_stationTold_60 : decode cX8_stationTold 60 = .ok (.invokevirtual 104, 3) := by decide +kernel
theorem dX8_stationTold_63 : decode cX8_stationTold 63 = .ok (.ireturn, 1) := by decide +kernel
theorem dX8_station_0 : decode cX8_station 0 = .ok (.aload_n 0, 1) := by decide +kernel
theorem dX8_station_1 : decode cX8_station 1 = .ok (.iconst 0, 1) := by decide +kernel
theorem dX8_station_2 : decode cX8_station 2 = .ok (.putfield 37, 3) := by decide +kernel
theorem dX8_station_5 : decode cX8_station 5 = .ok (.aload_n 0, 1) := by decide +kernel
theorem dX8_station_6 : decode cX8_station 6 = .ok (.iload_n 1, 1) := by decide +kernel
theorem dX8_station_7 : decode cX8_station 7 = .ok (.invokevirtual 107, 3) := by decide +kernel
theorem dX8_station_10 : decode cX8_station 10 = .ok (.ifCond .eq 21, 3) := by decide +kernel
theorem dX8_station_13 : decode cX8_station 13 = .ok (.iload_n 2, 1) := by decide +kernel
theorem dX8_station_14 : decode cX8_station 14 = .ok (.iconst 0, 1) := by decide +kernel
theorem dX8_station_15 : decode cX8_station 15 = .ok (.iconst 5, 1) := by decide +kernel
theorem dX8_station_16 : decode cX8_station 16 = .ok (.invokestatic 44, 3) := by decide +kernel
theorem dX8_station_19 : decode cX8_station 19 = .ok (.ifCond .eq 12, 3) := by decide +kernel
theorem dX8_station_22 : decode cX8_station 22 = .ok (.aload_n 0, 1) := by decide +kernel
theorem dX8_station_23 : decode cX8_station 23 = .ok (.iload_n 1, 1) := by decide +kernel
theorem dX8_station_24 : decode cX8_station 24 = .ok (.iload_n 2, 1) := by decide +kernel
theorem dX8_station_25 : decode cX8_station 25 = .ok (.invokevirtual 110, 3) := by decide +kernel
theorem dX8_station_28 : decode cX8_station 28 = .ok (.goto 8, 3) := by decide +kernel
theorem dX8_station_31 : decode cX8_station 31 = .ok (.aload_n 0, 1) := by decide +kernel
theorem dX8_station_32 : decode cX8_station 32 = .ok (.iconst 1, 1) := by decide +kernel
theorem dX8_station_33 : decode cX8_station 33 = .ok (.invokevirtual 82, 3) := by decide +kernel
theorem dX8_station_36 : decode cX8_station 36 = .ok (.ireturn, 1) := by decide +kernel
theorem dX8_held_0 : decode cX8_held 0 = .ok (.iconst 0, 1) := by decide +kernel
theorem dX8_held_1 : decode cX8_held 1 = .ok (.istore_n 3, 1) := by decide +kernel
theorem dX8_held_2 : decode cX8_held 2 = .ok (.iconst 0, 1) := by decide +kernel
theorem dX8_held_3 : decode cX8_held 3 = .ok (.istore 4, 2) := by decide +kernel
theorem dX8_held_5 : decode cX8_held 5 = .ok (.iload 4, 2) := by decide +kernel
theorem dX8_held_7 : decode cX8_held 7 = .ok (.aload_n 0, 1) := by decide +kernel
theorem dX8_held_8 : decode cX8_held 8 = .ok (.getfield 41, 3) := by decide +kernel
theorem dX8_held_11 : decode cX8_held 11 = .ok (.if_icmp .ge 45, 3) := by decide +kernel
theorem dX8_held_14 : decode cX8_held 14 = .ok (.aload_n 0, 1) := by decide +kernel
theorem dX8_held_15 : decode cX8_held 15 = .ok (.getfield 30, 3) := by decide +kernel
theorem dX8_held_18 : decode cX8_held 18 = .ok (.iload_n 1, 1) := by decide +kernel
theorem dX8_held_19 : decode cX8_held 19 = .ok (.iload 4, 2) := by decide +kernel
theorem dX8_held_21 : decode cX8_held 21 = .ok (.invokevirtual 94, 3) := by decide +kernel
theorem dX8_held_24 : decode cX8_held 24 = .ok (.ifCond .eq 26, 3) := by decide +kernel
theorem dX8_held_27 : decode cX8_held 27 = .ok (.iload_n 3, 1) := by decide +kernel
theorem dX8_held_28 : decode cX8_held 28 = .ok (.iload_n 2, 1) := by decide +kernel
theorem dX8_held_29 : decode cX8_held 29 = .ok (.ifCond .eq 18, 3) := by decide +kernel
theorem dX8_held_32 : decode cX8_held 32 = .ok (.aload_n 0, 1) := by decide +kernel
theorem dX8_held_33 : decode cX8_held 33 = .ok (.getfield 9, 3) := by decide +kernel
theorem dX8_held_36 : decode cX8_held 36 = .ok (.bipush 6, 2) := by decide +kernel
theorem dX8_held_38 : decode cX8_held 38 = .ok (.iload 4, 2) := by decide +kernel
theorem dX8_held_40 : decode cX8_held 40 = .ok (.imul, 1) := by decide +kernel
theorem dX8_held_41 : decode cX8_held 41 = .ok (.iconst 2, 1) := by decide +kernel
theorem dX8_held_42 : decode cX8_held 42 = .ok (.iadd, 1) := by decide +kernel
theorem dX8_held_43 : decode cX8_held 43 = .ok (.iaload, 1) := by decide +kernel
theorem dX8_held_44 : decode cX8_held 44 = .ok (.goto 4, 3) := by decide +kernel
theorem dX8_held_47 : decode cX8_held 47 = .ok (.iconst 1, 1) := by decide +kernel
theorem dX8_held_48 : decode cX8_held 48 = .ok (.iadd, 1) := by decide +kernel
theorem dX8_held_49 : decode cX8_held 49 = .ok (.istore_n 3, 1) := by decide +kernel
theorem dX8_held_50 : decode cX8_held 50 = .ok (.iinc 4 1, 3) := by decide +kernel
theorem dX8_held_53 : decode cX8_held 53 = .ok (.goto (-48), 3) := by decide +kernel
theorem dX8_held_56 : decode cX8_held 56 = .ok (.iload_n 3, 1) := by decide +kernel
theorem dX8_held_57 : decode cX8_held 57 = .ok (.ireturn, 1) := by decide +kernel
theorem dX8_memberTold_0 : decode cX8_memberTold 0 = .ok (.iload_n 2, 1) := by decide +kernel
theorem dX8_memberTold_1 : decode cX8_memberTold 1 = .ok (.tableswitch 121 0 7 #[47, 54, 61, 68, 78, 85, 101, 111], 47) := by decide +kernel
theorem dX8_memberTold_48 : decode cX8_memberTold 48 = .ok (.aload_n 0, 1) := by decide +kernel
theorem dX8_memberTold_49 : decode cX8_memberTold 49 = .ok (.getfield 13, 3) := by decide +kernel
theorem dX8_memberTold_52 : decode cX8_memberTold 52 = .ok (.iload_n 1, 1) := by decide +kernel
theorem dX8_memberTold_53 : decode cX8_memberTold 53 = .ok (.iaload, 1) := by decide +kernel
theorem dX8_memberTold_54 : decode cX8_memberTold 54 = .ok (.ireturn, 1) := by decide +kernel
theorem dX8_memberTold_55 : decode cX8_memberTold 55 = .ok (.aload_n 0, 1) := by decide +kernel
theorem dX8_memberTold_56 : decode cX8_memberTold 56 = .ok (.getfield 16, 3) := by decide +kernel
theorem dX8_memberTold_59 : decode cX8_memberTold 59 = .ok (.iload_n 1, 1) := by decide +kernel
theorem dX8_memberTold_60 : decode cX8_memberTold 60 = .ok (.iaload, 1) := by decide +kernel
theorem dX8_memberTold_61 : decode cX8_memberTold 61 = .ok (.ireturn, 1) := by decide +kernel
theorem dX8_memberTold_62 : decode cX8_memberTold 62 = .ok (.aload_n 0, 1) := by decide +kernel
theorem dX8_memberTold_63 : decode cX8_memberTold 63 = .ok (.getfield 19, 3) := by decide +kernel
theorem dX8_memberTold_66 : decode cX8_memberTold 66 = .ok (.iload_n 1, 1) := by decide +kernel
theorem dX8_memberTold_67 : decode cX8_memberTold 67 = .ok (.iaload, 1) := by decide +kernel
theorem dX8_memberTold_68 : decode cX8_memberTold 68 = .ok (.ireturn, 1) := by decide +kernel
theorem dX8_memberTold_69 : decode cX8_memberTold 69 = .ok (.aload_n 0, 1) := by decide +kernel
theorem dX8_memberTold_70 : decode cX8_memberTold 70 = .ok (.getfield 30, 3) := by decide +kernel
theorem dX8_memberTold_73 : decode cX8_memberTold 73 = .ok (.getfield 91, 3) := by decide +kernel
theorem dX8_memberTold_76 : decode cX8_memberTold 76 = .ok (.iload_n 1, 1) := by decide +kernel
theorem dX8_memberTold_77 : decode cX8_memberTold 77 = .ok (.iaload, 1) := by decide +kernel
theorem dX8_memberTold_78 : decode cX8_memberTold 78 = .ok (.ireturn, 1) := by decide +kernel
theorem dX8_memberTold_79 : decode cX8_memberTold 79 = .ok (.aload_n 0, 1) := by decide +kernel
theorem dX8_memberTold_80 : decode cX8_memberTold 80 = .ok (.getfield 22, 3) := by decide +kernel
theorem dX8_memberTold_83 : decode cX8_memberTold 83 = .ok (.iload_n 1, 1) := by decide +kernel
theorem dX8_memberTold_84 : decode cX8_memberTold 84 = .ok (.iaload, 1) := by decide +kernel
theorem dX8_memberTold_85 : decode cX8_memberTold 85 = .ok (.ireturn, 1) := by decide +kernel
theorem dX8_memberTold_86 : decode cX8_memberTold 86 = .ok (.aload_n 0, 1) := by decide +kernel
theorem dX8_memberTold_87 : decode cX8_memberTold 87 = .ok (.getfield 13, 3) := by decide +kernel
theorem dX8_memberTold_90 : decode cX8_memberTold 90 = .ok (.iload_n 1, 1) := by decide +kernel
theorem dX8_memberTold_91 : decode cX8_memberTold 91 = .ok (.iaload, 1) := by decide +kernel
theorem dX8_memberTold_92 : decode cX8_memberTold 92 = .ok (.aload_n 0, 1) := by decide +kernel
theorem dX8_memberTold_93 : decode cX8_memberTold 93 = .ok (.getfield 16, 3) := by decide +kernel
theorem dX8_memberTold_96 : decode cX8_memberTold 96 = .ok (.iload_n 1, 1) := by decide +kernel
theorem dX8_memberTold_97 : decode cX8_memberTold 97 = .ok (.iaload, 1) := by decide +kernel
theorem dX8_memberTold_98 : decode cX8_memberTold 98 = .ok (.invokestatic 72, 3) := by decide +kernel
theorem dX8_memberTold_101 : decode cX8_memberTold 101 = .ok (.ireturn, 1) := by decide +kernel
theorem dX8_memberTold_102 : decode cX8_memberTold 102 = .ok (.aload_n 0, 1) := by decide +kernel
theorem dX8_memberTold_103 : decode cX8_memberTold 103 = .ok (.getfield 13, 3) := by decide +kernel
theorem dX8_memberTold_106 : decode cX8_memberTold 106 = .ok (.iload_n 1, 1) := by decide +kernel
theorem dX8_memberTold_107 : decode cX8_memberTold 107 = .ok (.iaload, 1) := by decide +kernel
theorem dX8_memberTold_108 : decode cX8_memberTold 108 = .ok (.invokestatic 69, 3) := by decide +kernel
theorem dX8_memberTold_111 : decode cX8_memberTold 111 = .ok (.ireturn, 1) := by decide +kernel
theorem dX8_memberTold_112 : decode cX8_memberTold 112 = .ok (.aload_n 0, 1) := by decide +kernel
theorem dX8_memberTold_113 : decode cX8_memberTold 113 = .ok (.getfield 30, 3) := by decide +kernel
theorem dX8_memberTold_116 : decode cX8_memberTold 116 = .ok (.getfield 55, 3) := by decide +kernel
theorem dX8_memberTold_119 : decode cX8_memberTold 119 = .ok (.iload_n 1, 1) := by decide +kernel
theorem dX8_memberTold_120 : decode cX8_memberTold 120 = .ok (.iaload, 1) := by decide +kernel
theorem dX8_memberTold_121 : decode cX8_memberTold 121 = .ok (.ireturn, 1) := by decide +kernel
theorem dX8_memberTold_122 : decode cX8_memberTold 122 = .ok (.aload_n 0, 1) := by decide +kernel
theorem dX8_memberTold_123 : decode cX8_memberTold 123 = .ok (.iload_n 1, 1) := by decide +kernel
theorem dX8_memberTold_124 : decode cX8_memberTold 124 = .ok (.iload_n 2, 1) := by decide +kernel
theorem dX8_memberTold_125 : decode cX8_memberTold 125 = .ok (.bipush 9, 2) := by decide +kernel
theorem dX8_memberTold_127 : decode cX8_memberTold 127 = .ok (.if_icmp .ne 7, 3) := by decide +kernel
theorem dX8_memberTold_130 : decode cX8_memberTold 130 = .ok (.iconst 1, 1) := by decide +kernel
theorem dX8_memberTold_131 : decode cX8_memberTold 131 = .ok (.goto 4, 3) := by decide +kernel
theorem dX8_memberTold_134 : decode cX8_memberTold 134 = .ok (.iconst 0, 1) := by decide +kernel
theorem dX8_memberTold_135 : decode cX8_memberTold 135 = .ok (.invokevirtual 113, 3) := by decide +kernel
theorem dX8_memberTold_138 : decode cX8_memberTold 138 = .ok (.ireturn, 1) := by decide +kernel
theorem dX8_member_0 : decode cX8_member 0 = .ok (.aload_n 0, 1) := by decide +kernel
theorem dX8_member_1 : decode cX8_member 1 = .ok (.iconst 0, 1) := by decide +kernel
theorem dX8_member_2 : decode cX8_member 2 = .ok (.putfield 37, 3) := by decide +kernel
theorem dX8_member_5 : decode cX8_member 5 = .ok (.aload_n 0, 1) := by decide +kernel
theorem dX8_member_6 : decode cX8_member 6 = .ok (.iload_n 1, 1) := by decide +kernel
theorem dX8_member_7 : decode cX8_member 7 = .ok (.invokevirtual 51, 3) := by decide +kernel
theorem dX8_member_10 : decode cX8_member 10 = .ok (.ifCond .eq 22, 3) := by decide +kernel
theorem dX8_member_13 : decode cX8_member 13 = .ok (.iload_n 2, 1) := by decide +kernel
theorem dX8_member_14 : decode cX8_member 14 = .ok (.iconst 0, 1) := by decide +kernel
theorem dX8_member_15 : decode cX8_member 15 = .ok (.bipush 9, 2) := by decide +kernel
theorem dX8_member_17 : decode cX8_member 17 = .ok (.invokestatic 44, 3) := by decide +kernel
theorem dX8_member_20 : decode cX8_member 20 = .ok (.ifCond .eq 12, 3) := by decide +kernel
theorem dX8_member_23 : decode cX8_member 23 = .ok (.aload_n 0, 1) := by decide +kernel
theorem dX8_member_24 : decode cX8_member 24 = .ok (.iload_n 1, 1) := by decide +kernel
theorem dX8_member_25 : decode cX8_member 25 = .ok (.iload_n 2, 1) := by decide +kernel
theorem dX8_member_26 : decode cX8_member 26 = .ok (.invokevirtual 117, 3) := by decide +kernel
theorem dX8_member_29 : decode cX8_member 29 = .ok (.goto 8, 3) := by decide +kernel
theorem dX8_member_32 : decode cX8_member 32 = .ok (.aload_n 0, 1) := by decide +kernel
theorem dX8_member_33 : decode cX8_member 33 = .ok (.iconst 1, 1) := by decide +kernel
theorem dX8_member_34 : decode cX8_member 34 = .ok (.invokevirtual 82, 3) := by decide +kernel
theorem dX8_member_37 : decode cX8_member 37 = .ok (.ireturn, 1) := by decide +kernel
theorem dX8_strength_0 : decode cX8_strength 0 = .ok (.aload_n 0, 1) := by decide +kernel
theorem dX8_strength_1 : decode cX8_strength 1 = .ok (.iconst 0, 1) := by decide +kernel
theorem dX8_strength_2 : decode cX8_strength 2 = .ok (.putfield 37, 3) := by decide +kernel
theorem dX8_strength_5 : decode cX8_strength 5 = .ok (.aload_n 0, 1) := by decide +kernel
theorem dX8_strength_6 : decode cX8_strength 6 = .ok (.iload_n 1, 1) := by decide +kernel
theorem dX8_strength_7 : decode cX8_strength 7 = .ok (.invokevirtual 51, 3) := by decide +kernel
theorem dX8_strength_10 : decode cX8_strength 10 = .ok (.ifCond .eq 11, 3) := by decide +kernel
theorem dX8_strength_13 : decode cX8_strength 13 = .ok (.aload_n 0, 1) := by decide +kernel
theorem dX8_strength_14 : decode cX8_strength 14 = .ok (.iload_n 2, 1) := by decide +kernel
theorem dX8_strength_15 : decode cX8_strength 15 = .ok (.invokevirtual 107, 3) := by decide +kernel
theorem dX8_strength_18 : decode cX8_strength 18 = .ok (.ifCond .ne 9, 3) := by decide +kernel
theorem dX8_strength_21 : decode cX8_strength 21 = .ok (.aload_n 0, 1) := by decide +kernel
theorem dX8_strength_22 : decode cX8_strength 22 = .ok (.iconst 1, 1) := by decide +kernel
theorem dX8_strength_23 : decode cX8_strength 23 = .ok (.invokevirtual 82, 3) := by decide +kernel
theorem dX8_strength_26 : decode cX8_strength 26 = .ok (.ireturn, 1) := by decide +kernel
theorem dX8_strength_27 : decode cX8_strength 27 = .ok (.aload_n 0, 1) := by decide +kernel
theorem dX8_strength_28 : decode cX8_strength 28 = .ok (.aload_n 0, 1) := by decide +kernel
theorem dX8_strength_29 : decode cX8_strength 29 = .ok (.getfield 30, 3) := by decide +kernel
theorem dX8_strength_32 : decode cX8_strength 32 = .ok (.getfield 98, 3) := by decide +kernel
theorem dX8_strength_35 : decode cX8_strength 35 = .ok (.invokevirtual 101, 3) := by decide +kernel
theorem dX8_strength_38 : decode cX8_strength 38 = .ok (.iload_n 2, 1) := by decide +kernel
theorem dX8_strength_39 : decode cX8_strength 39 = .ok (.ishr, 1) := by decide +kernel
theorem dX8_strength_40 : decode cX8_strength 40 = .ok (.iconst 1, 1) := by decide +kernel
theorem dX8_strength_41 : decode cX8_strength 41 = .ok (.iand, 1) := by decide +kernel
theorem dX8_strength_42 : decode cX8_strength 42 = .ok (.ifCond .ne 7, 3) := by decide +kernel
theorem dX8_strength_45 : decode cX8_strength 45 = .ok (.iconst 0, 1) := by decide +kernel
theorem dX8_strength_46 : decode cX8_strength 46 = .ok (.goto 37, 3) := by decide +kernel
theorem dX8_strength_49 : decode cX8_strength 49 = .ok (.aload_n 0, 1) := by decide +kernel
theorem dX8_strength_50 : decode cX8_strength 50 = .ok (.iload_n 1, 1) := by decide +kernel
theorem dX8_strength_51 : decode cX8_strength 51 = .ok (.iload_n 2, 1) := by decide +kernel
theorem dX8_strength_52 : decode cX8_strength 52 = .ok (.aload_n 0, 1) := by decide +kernel
theorem dX8_strength_53 : decode cX8_strength 53 = .ok (.getfield 30, 3) := by decide +kernel
theorem dX8_strength_56 : decode cX8_strength 56 = .ok (.getfield 98, 3) := by decide +kernel
theorem dX8_strength_59 : decode cX8_strength 59 = .ok (.aload_n 0, 1) := by decide +kernel
theorem dX8_strength_60 : decode cX8_strength 60 = .ok (.getfield 13, 3) := by decide +kernel
theorem dX8_strength_63 : decode cX8_strength 63 = .ok (.iload_n 1, 1) := by decide +kernel
theorem dX8_strength_64 : decode cX8_strength 64 = .ok (.iaload, 1) := by decide +kernel
theorem dX8_strength_65 : decode cX8_strength 65 = .ok (.aload_n 0, 1) := by decide +kernel
theorem dX8_strength_66 : decode cX8_strength 66 = .ok (.getfield 16, 3) := by decide +kernel
theorem dX8_strength_69 : decode cX8_strength 69 = .ok (.iload_n 1, 1) := by decide +kernel
theorem dX8_strength_70 : decode cX8_strength 70 = .ok (.iaload, 1) := by decide +kernel
theorem dX8_strength_71 : decode cX8_strength 71 = .ok (.aload_n 0, 1) := by decide +kernel
theorem dX8_strength_72 : decode cX8_strength 72 = .ok (.getfield 30, 3) := by decide +kernel
theorem dX8_strength_75 : decode cX8_strength 75 = .ok (.getfield 91, 3) := by decide +kernel
theorem dX8_strength_78 : decode cX8_strength 78 = .ok (.iload_n 1, 1) := by decide +kernel
theorem dX8_strength_79 : decode cX8_strength 79 = .ok (.iaload, 1) := by decide +kernel
theorem dX8_strength_80 : decode cX8_strength 80 = .ok (.invokevirtual 78, 3) := by decide +kernel
theorem dX8_strength_83 : decode cX8_strength 83 = .ok (.ireturn, 1) := by decide +kernel
theorem dX8_hears_0 : decode cX8_hears 0 = .ok (.aload_n 0, 1) := by decide +kernel
theorem dX8_hears_1 : decode cX8_hears 1 = .ok (.iconst 0, 1) := by decide +kernel
theorem dX8_hears_2 : decode cX8_hears 2 = .ok (.putfield 37, 3) := by decide +kernel
theorem dX8_hears_5 : decode cX8_hears 5 = .ok (.aload_n 0, 1) := by decide +kernel
theorem dX8_hears_6 : decode cX8_hears 6 = .ok (.iload_n 1, 1) := by decide +kernel
theorem dX8_hears_7 : decode cX8_hears 7 = .ok (.invokevirtual 51, 3) := by decide +kernel
theorem dX8_hears_10 : decode cX8_hears 10 = .ok (.ifCond .eq 50, 3) := by decide +kernel
theorem dX8_hears_13 : decode cX8_hears 13 = .ok (.aload_n 0, 1) := by decide +kernel
theorem dX8_hears_14 : decode cX8_hears 14 = .ok (.iload_n 1, 1) := by decide +kernel
theorem dX8_hears_15 : decode cX8_hears 15 = .ok (.aload_n 0, 1) := by decide +kernel
theorem dX8_hears_16 : decode cX8_hears 16 = .ok (.getfield 30, 3) := by decide +kernel
theorem dX8_hears_19 : decode cX8_hears 19 = .ok (.getfield 98, 3) := by decide +kernel
theorem dX8_hears_22 : decode cX8_hears 22 = .ok (.aload_n 0, 1) := by decide +kernel
theorem dX8_hears_23 : decode cX8_hears 23 = .ok (.getfield 13, 3) := by decide +kernel
theorem dX8_hears_26 : decode cX8_hears 26 = .ok (.iload_n 1, 1) := by decide +kernel
theorem dX8_hears_27 : decode cX8_hears 27 = .ok (.iaload, 1) := by decide +kernel
theorem dX8_hears_28 : decode cX8_hears 28 = .ok (.aload_n 0, 1) := by decide +kernel
theorem dX8_hears_29 : decode cX8_hears 29 = .ok (.getfield 16, 3) := by decide +kernel
theorem dX8_hears_32 : decode cX8_hears 32 = .ok (.iload_n 1, 1) := by decide +kernel
theorem dX8_hears_33 : decode cX8_hears 33 = .ok (.iaload, 1) := by decide +kernel
theorem dX8_hears_34 : decode cX8_hears 34 = .ok (.aload_n 0, 1) := by decide +kernel
theorem dX8_hears_35 : decode cX8_hears 35 = .ok (.getfield 30, 3) := by decide +kernel
theorem dX8_hears_38 : decode cX8_hears 38 = .ok (.getfield 91, 3) := by decide +kernel
theorem dX8_hears_41 : decode cX8_hears 41 = .ok (.iload_n 1, 1) := by decide +kernel
theorem dX8_hears_42 : decode cX8_hears 42 = .ok (.iaload, 1) := by decide +kernel
theorem dX8_hears_43 : decode cX8_hears 43 = .ok (.aload_n 0, 1) := by decide +kernel
theorem dX8_hears_44 : decode cX8_hears 44 = .ok (.aload_n 0, 1) := by decide +kernel
theorem dX8_hears_45 : decode cX8_hears 45 = .ok (.getfield 30, 3) := by decide +kernel
theorem dX8_hears_48 : decode cX8_hears 48 = .ok (.getfield 98, 3) := by decide +kernel
theorem dX8_hears_51 : decode cX8_hears 51 = .ok (.invokevirtual 101, 3) := by decide +kernel
theorem dX8_hears_54 : decode cX8_hears 54 = .ok (.invokevirtual 120, 3) := by decide +kernel
theorem dX8_hears_57 : decode cX8_hears 57 = .ok (.goto 8, 3) := by decide +kernel
theorem dX8_hears_60 : decode cX8_hears 60 = .ok (.aload_n 0, 1) := by decide +kernel
theorem dX8_hears_61 : decode cX8_hears 61 = .ok (.iconst 1, 1) := by decide +kernel
theorem dX8_hears_62 : decode cX8_hears 62 = .ok (.invokevirtual 82, 3) := by decide +kernel
theorem dX8_hears_65 : decode cX8_hears 65 = .ok (.ireturn, 1) := by decide +kernel
theorem dX8_log_0 : decode cX8_log 0 = .ok (.aload_n 0, 1) := by decide +kernel
theorem dX8_log_1 : decode cX8_log 1 = .ok (.iconst 0, 1) := by decide +kernel
theorem dX8_log_2 : decode cX8_log 2 = .ok (.putfield 37, 3) := by decide +kernel
theorem dX8_log_5 : decode cX8_log 5 = .ok (.aload_n 0, 1) := by decide +kernel
theorem dX8_log_6 : decode cX8_log 6 = .ok (.iload_n 1, 1) := by decide +kernel
theorem dX8_log_7 : decode cX8_log 7 = .ok (.iload_n 2, 1) := by decide +kernel
theorem dX8_log_8 : decode cX8_log 8 = .ok (.invokevirtual 123, 3) := by decide +kernel
theorem dX8_log_11 : decode cX8_log 11 = .ok (.ifCond .eq 33, 3) := by decide +kernel
theorem dX8_log_14 : decode cX8_log 14 = .ok (.iload_n 3, 1) := by decide +kernel
theorem dX8_log_15 : decode cX8_log 15 = .ok (.iconst 0, 1) := by decide +kernel
theorem dX8_log_16 : decode cX8_log 16 = .ok (.iconst 3, 1) := by decide +kernel
theorem dX8_log_17 : decode cX8_log 17 = .ok (.invokestatic 44, 3) := by decide +kernel
theorem dX8_log_20 : decode cX8_log 20 = .ok (.ifCond .eq 24, 3) := by decide +kernel
theorem dX8_log_23 : decode cX8_log 23 = .ok (.aload_n 0, 1) := by decide +kernel
theorem dX8_log_24 : decode cX8_log 24 = .ok (.getfield 30, 3) := by decide +kernel
theorem dX8_log_27 : decode cX8_log 27 = .ok (.getfield 126, 3) := by decide +kernel
theorem dX8_log_30 : decode cX8_log 30 = .ok (.iconst 4, 1) := by decide +kernel
theorem dX8_log_31 : decode cX8_log 31 = .ok (.bipush 40, 2) := by decide +kernel
theorem dX8_log_33 : decode cX8_log 33 = .ok (.iload_n 1, 1) := by decide +kernel
theorem dX8_log_34 : decode cX8_log 34 = .ok (.imul, 1) := by decide +kernel
theorem dX8_log_35 : decode cX8_log 35 = .ok (.iload_n 2, 1) := by decide +kernel
theorem dX8_log_36 : decode cX8_log 36 = .ok (.iadd, 1) := by decide +kernel
theorem dX8_log_37 : decode cX8_log 37 = .ok (.imul, 1) := by decide +kernel
theorem dX8_log_38 : decode cX8_log 38 = .ok (.iload_n 3, 1) := by decide +kernel
theorem dX8_log_39 : decode cX8_log 39 = .ok (.iadd, 1) := by decide +kernel
theorem dX8_log_40 : decode cX8_log 40 = .ok (.iaload, 1) := by decide +kernel
theorem dX8_log_41 : decode cX8_log 41 = .ok (.goto 8, 3) := by decide +kernel
theorem dX8_log_44 : decode cX8_log 44 = .ok (.aload_n 0, 1) := by decide +kernel
theorem dX8_log_45 : decode cX8_log 45 = .ok (.iconst 1, 1) := by decide +kernel
theorem dX8_log_46 : decode cX8_log 46 = .ok (.invokevirtual 82, 3) := by decide +kernel
theorem dX8_log_49 : decode cX8_log 49 = .ok (.ireturn, 1) := by decide +kernel
theorem dX8_write_0 : decode cX8_write 0 = .ok (.aload_n 0, 1) := by decide +kernel
theorem dX8_write_1 : decode cX8_write 1 = .ok (.iconst 0, 1) := by decide +kernel
theorem dX8_write_2 : decode cX8_write 2 = .ok (.putfield 37, 3) := by decide +kernel
theorem dX8_write_5 : decode cX8_write 5 = .ok (.aload_n 0, 1) := by decide +kernel
theorem dX8_write_6 : decode cX8_write 6 = .ok (.iload_n 1, 1) := by decide +kernel
theorem dX8_write_7 : decode cX8_write 7 = .ok (.iload_n 2, 1) := by decide +kernel
theorem dX8_write_8 : decode cX8_write 8 = .ok (.invokevirtual 123, 3) := by decide +kernel
theorem dX8_write_11 : decode cX8_write 11 = .ok (.ifCond .ne 9, 3) := by decide +kernel
theorem dX8_write_14 : decode cX8_write 14 = .ok (.aload_n 0, 1) := by decide +kernel
theorem dX8_write_15 : decode cX8_write 15 = .ok (.iconst 1, 1) := by decide +kernel
theorem dX8_write_16 : decode cX8_write 16 = .ok (.invokevirtual 82, 3) := by decide +kernel
theorem dX8_write_19 : decode cX8_write 19 = .ok (.ireturn, 1) := by decide +kernel
theorem dX8_write_20 : decode cX8_write 20 = .ok (.bipush 40, 2) := by decide +kernel
theorem dX8_write_22 : decode cX8_write 22 = .ok (.iload_n 1, 1) := by decide +kernel
theorem dX8_write_23 : decode cX8_write 23 = .ok (.imul, 1) := by decide +kernel
theorem dX8_write_24 : decode cX8_write 24 = .ok (.iload_n 2, 1) := by decide +kernel
theorem dX8_write_25 : decode cX8_write 25 = .ok (.iadd, 1) := by decide +kernel
theorem dX8_write_26 : decode cX8_write 26 = .ok (.istore_n 3, 1) := by decide +kernel
theorem dX8_write_27 : decode cX8_write 27 = .ok (.iconst 0, 1) := by decide +kernel
theorem dX8_write_28 : decode cX8_write 28 = .ok (.istore 4, 2) := by decide +kernel
theorem dX8_write_30 : decode cX8_write 30 = .ok (.iconst 0, 1) := by decide +kernel
theorem dX8_write_31 : decode cX8_write 31 = .ok (.istore 5, 2) := by decide +kernel
theorem dX8_write_33 : decode cX8_write 33 = .ok (.iload 5, 2) := by decide +kernel
theorem dX8_write_35 : decode cX8_write 35 = .ok (.aload_n 0, 1) := by decide +kernel
theorem dX8_write_36 : decode cX8_write 36 = .ok (.getfield 30, 3) := by decide +kernel
theorem dX8_write_39 : decode cX8_write 39 = .ok (.getfield 129, 3) := by decide +kernel
theorem dX8_write_42 : decode cX8_write 42 = .ok (.if_icmp .ge 35, 3) := by decide +kernel
theorem dX8_write_45 : decode cX8_write 45 = .ok (.iload 4, 2) := by decide +kernel
theorem dX8_write_47 : decode cX8_write 47 = .ok (.aload_n 0, 1) := by decide +kernel
theorem dX8_write_48 : decode cX8_write 48 = .ok (.getfield 30, 3) := by decide +kernel
theorem dX8_write_51 : decode cX8_write 51 = .ok (.getfield 132, 3) := by decide +kernel
theorem dX8_write_54 : decode cX8_write 54 = .ok (.iconst 2, 1) := by decide +kernel
theorem dX8_write_55 : decode cX8_write 55 = .ok (.iload 5, 2) := by decide +kernel
theorem dX8_write_57 : decode cX8_write 57 = .ok (.imul, 1) := by decide +kernel
theorem dX8_write_58 : decode cX8_write 58 = .ok (.iaload, 1) := by decide +kernel
theorem dX8_write_59 : decode cX8_write 59 = .ok (.iload_n 3, 1) := by decide +kernel
theorem dX8_write_60 : decode cX8_write 60 = .ok (.if_icmp .ne 7, 3) := by decide +kernel
theorem dX8_write_63 : decode cX8_write 63 = .ok (.iconst 1, 1) := by decide +kernel
theorem dX8_write_64 : decode cX8_write 64 = .ok (.goto 4, 3) := by decide +kernel
theorem dX8_write_67 : decode cX8_write 67 = .ok (.iconst 0, 1) := by decide +kernel
theorem dX8_write_68 : decode cX8_write 68 = .ok (.ior, 1) := by decide +kernel
theorem dX8_write_69 : decode cX8_write 69 = .ok (.istore 4, 2) := by decide +kernel
theorem dX8_write_71 : decode cX8_write 71 = .ok (.iinc 5 1, 3) := by decide +kernel
theorem dX8_write_74 : decode cX8_write 74 = .ok (.goto (-41), 3) := by decide +kernel
theorem dX8_write_77 : decode cX8_write 77 = .ok (.aload_n 0, 1) := by decide +kernel
theorem dX8_write_78 : decode cX8_write 78 = .ok (.getfield 30, 3) := by decide +kernel
theorem dX8_write_81 : decode cX8_write 81 = .ok (.getfield 126, 3) := by decide +kernel
theorem dX8_write_84 : decode cX8_write 84 = .ok (.iconst 4, 1) := by decide +kernel
theorem dX8_write_85 : decode cX8_write 85 = .ok (.iload_n 3, 1) := by decide +kernel
theorem dX8_write_86 : decode cX8_write 86 = .ok (.imul, 1) := by decide +kernel
theorem dX8_write_87 : decode cX8_write 87 = .ok (.iconst 3, 1) := by decide +kernel
theorem dX8_write_88 : decode cX8_write 88 = .ok (.iadd, 1) := by decide +kernel
theorem dX8_write_89 : decode cX8_write 89 = .ok (.iaload, 1) := by decide +kernel
theorem dX8_write_90 : decode cX8_write 90 = .ok (.iconst 1, 1) := by decide +kernel
theorem dX8_write_91 : decode cX8_write 91 = .ok (.if_icmp .eq 20, 3) := by decide +kernel
theorem dX8_write_94 : decode cX8_write 94 = .ok (.iload 4, 2) := by decide +kernel
theorem dX8_write_96 : decode cX8_write 96 = .ok (.ifCond .ne 15, 3) := by decide +kernel
theorem dX8_write_99 : decode cX8_write 99 = .ok (.aload_n 0, 1) := by decide +kernel
theorem dX8_write_100 : decode cX8_write 100 = .ok (.getfield 30, 3) := by decide +kernel
theorem dX8_write_103 : decode cX8_write 103 = .ok (.getfield 129, 3) := by decide +kernel
theorem dX8_write_106 : decode cX8_write 106 = .ok (.bipush 30, 2) := by decide +kernel
theorem dX8_write_108 : decode cX8_write 108 = .ok (.if_icmp .ne 9, 3) := by decide +kernel
theorem dX8_write_111 : decode cX8_write 111 = .ok (.aload_n 0, 1) := by decide +kernel
theorem dX8_write_112 : decode cX8_write 112 = .ok (.iconst 2, 1) := by decide +kernel
theorem dX8_write_113 : decode cX8_write 113 = .ok (.invokevirtual 82, 3) := by decide +kernel
theorem dX8_write_116 : decode cX8_write 116 = .ok (.ireturn, 1) := by decide +kernel
theorem dX8_write_117 : decode cX8_write 117 = .ok (.aload_n 0, 1) := by decide +kernel
theorem dX8_write_118 : decode cX8_write 118 = .ok (.getfield 30, 3) := by decide +kernel
theorem dX8_write_121 : decode cX8_write 121 = .ok (.getfield 98, 3) := by decide +kernel
theorem dX8_write_124 : decode cX8_write 124 = .ok (.bipush 24, 2) := by decide +kernel
theorem dX8_write_126 : decode cX8_write 126 = .ok (.aload_n 0, 1) := by decide +kernel
theorem dX8_write_127 : decode cX8_write 127 = .ok (.getfield 9, 3) := by decide +kernel
theorem dX8_write_130 : decode cX8_write 130 = .ok (.bipush 6, 2) := by decide +kernel
theorem dX8_write_132 : decode cX8_write 132 = .ok (.aload_n 0, 1) := by decide +kernel
theorem dX8_write_133 : decode cX8_write 133 = .ok (.getfield 30, 3) := by decide +kernel
theorem dX8_write_136 : decode cX8_write 136 = .ok (.getfield 126, 3) := by decide +kernel
theorem dX8_write_139 : decode cX8_write 139 = .ok (.iconst 4, 1) := by decide +kernel
theorem dX8_write_140 : decode cX8_write 140 = .ok (.iload_n 3, 1) := by decide +kernel
theorem dX8_write_141 : decode cX8_write 141 = .ok (.imul, 1) := by decide +kernel
theorem dX8_write_142 : decode cX8_write 142 = .ok (.iconst 1, 1) := by decide +kernel
theorem dX8_write_143 : decode cX8_write 143 = .ok (.iadd, 1) := by decide +kernel
theorem dX8_write_144 : decode cX8_write 144 = .ok (.iaload, 1) := by decide +kernel
theorem dX8_write_145 : decode cX8_write 145 = .ok (.imul, 1) := by decide +kernel
theorem dX8_write_146 : decode cX8_write 146 = .ok (.iconst 2, 1) := by decide +kernel
theorem dX8_write_147 : decode cX8_write 147 = .ok (.iadd, 1) := by decide +kernel
theorem dX8_write_148 : decode cX8_write 148 = .ok (.iaload, 1) := by decide +kernel
theorem dX8_write_149 : decode cX8_write 149 = .ok (.bipush 10, 2) := by decide +kernel
theorem dX8_write_151 : decode cX8_write 151 = .ok (.idiv, 1) := by decide +kernel
theorem dX8_write_152 : decode cX8_write 152 = .ok (.iconst 2, 1) := by decide +kernel
theorem dX8_write_153 : decode cX8_write 153 = .ok (.iadd, 1) := by decide +kernel
theorem dX8_write_154 : decode cX8_write 154 = .ok (.imul, 1) := by decide +kernel
theorem dX8_write_155 : decode cX8_write 155 = .ok (.iadd, 1) := by decide +kernel
theorem dX8_write_156 : decode cX8_write 156 = .ok (.istore 5, 2) := by decide +kernel
theorem dX8_write_158 : decode cX8_write 158 = .ok (.aload_n 0, 1) := by decide +kernel
theorem dX8_write_159 : decode cX8_write 159 = .ok (.getfield 30, 3) := by decide +kernel
theorem dX8_write_162 : decode cX8_write 162 = .ok (.getfield 132, 3) := by decide +kernel
theorem dX8_write_165 : decode cX8_write 165 = .ok (.iconst 2, 1) := by decide +kernel
theorem dX8_write_166 : decode cX8_write 166 = .ok (.aload_n 0, 1) := by decide +kernel
theorem dX8_write_167 : decode cX8_write 167 = .ok (.getfield 30, 3) := by decide +kernel
theorem dX8_write_170 : decode cX8_write 170 = .ok (.getfield 129, 3) := by decide +kernel
theorem dX8_write_173 : decode cX8_write 173 = .ok (.imul, 1) := by decide +kernel
theorem dX8_write_174 : decode cX8_write 174 = .ok (.iload_n 3, 1) := by decide +kernel
theorem dX8_write_175 : decode cX8_write 175 = .ok (.iastore, 1) := by decide +kernel
theorem dX8_write_176 : decode cX8_write 176 = .ok (.aload_n 0, 1) := by decide +kernel
theorem dX8_write_177 : decode cX8_write 177 = .ok (.getfield 30, 3) := by decide +kernel
theorem dX8_write_180 : decode cX8_write 180 = .ok (.getfield 132, 3) := by decide +kernel
theorem dX8_write_183 : decode cX8_write 183 = .ok (.iconst 2, 1) := by decide +kernel
theorem dX8_write_184 : decode cX8_write 184 = .ok (.aload_n 0, 1) := by decide +kernel
theorem dX8_write_185 : decode cX8_write 185 = .ok (.getfield 30, 3) := by decide +kernel
theorem dX8_write_188 : decode cX8_write 188 = .ok (.getfield 129, 3) := by decide +kernel
theorem dX8_write_191 : decode cX8_write 191 = .ok (.imul, 1) := by decide +kernel
theorem dX8_write_192 : decode cX8_write 192 = .ok (.iconst 1, 1) := by decide +kernel
theorem dX8_write_193 : decode cX8_write 193 = .ok (.iadd, 1) := by decide +kernel
theorem dX8_write_194 : decode cX8_write 194 = .ok (.iload 5, 2) := by decide +kernel
theorem dX8_write_196 : decode cX8_write 196 = .ok (.iastore, 1) := by decide +kernel
theorem dX8_write_197 : decode cX8_write 197 = .ok (.aload_n 0, 1) := by decide +kernel
theorem dX8_write_198 : decode cX8_write 198 = .ok (.getfield 30, 3) := by decide +kernel
theorem dX8_write_201 : decode cX8_write 201 = .ok (.dup, 1) := by decide +kernel
theorem dX8_write_202 : decode cX8_write 202 = .ok (.getfield 129, 3) := by decide +kernel
theorem dX8_write_205 : decode cX8_write 205 = .ok (.iconst 1, 1) := by decide +kernel
theorem dX8_write_206 : decode cX8_write 206 = .ok (.iadd, 1) := by decide +kernel
theorem dX8_write_207 : decode cX8_write 207 = .ok (.putfield 129, 3) := by decide +kernel
theorem dX8_write_210 : decode cX8_write 210 = .ok (.iload 5, 2) := by decide +kernel
theorem dX8_write_212 : decode cX8_write 212 = .ok (.ireturn, 1) := by decide +kernel
theorem dX8_pass_0 : decode cX8_pass 0 = .ok (.aload_n 0, 1) := by decide +kernel
theorem dX8_pass_1 : decode cX8_pass 1 = .ok (.iconst 0, 1) := by decide +kernel
theorem dX8_pass_2 : decode cX8_pass 2 = .ok (.putfield 37, 3) := by decide +kernel
theorem dX8_pass_5 : decode cX8_pass 5 = .ok (.iload_n 1, 1) := by decide +kernel
theorem dX8_pass_6 : decode cX8_pass 6 = .ok (.iconst 1, 1) := by decide +kernel
theorem dX8_pass_7 : decode cX8_pass 7 = .ok (.sipush 240, 3) := by decide +kernel
theorem dX8_pass_10 : decode cX8_pass 10 = .ok (.invokestatic 44, 3) := by decide +kernel
theorem dX8_pass_13 : decode cX8_pass 13 = .ok (.ifCond .ne 9, 3) := by decide +kernel
theorem dX8_pass_16 : decode cX8_pass 16 = .ok (.aload_n 0, 1) := by decide +kernel
theorem dX8_pass_17 : decode cX8_pass 17 = .ok (.iconst 1, 1) := by decide +kernel
theorem dX8_pass_18 : decode cX8_pass 18 = .ok (.invokevirtual 82, 3) := by decide +kernel
theorem dX8_pass_21 : decode cX8_pass 21 = .ok (.ireturn, 1) := by decide +kernel
theorem dX8_pass_22 : decode cX8_pass 22 = .ok (.aload_n 0, 1) := by decide +kernel
theorem dX8_pass_23 : decode cX8_pass 23 = .ok (.getfield 30, 3) := by decide +kernel
theorem dX8_pass_26 : decode cX8_pass 26 = .ok (.getfield 135, 3) := by decide +kernel
theorem dX8_pass_29 : decode cX8_pass 29 = .ok (.istore_n 2, 1) := by decide +kernel
theorem dX8_pass_30 : decode cX8_pass 30 = .ok (.aload_n 0, 1) := by decide +kernel
theorem dX8_pass_31 : decode cX8_pass 31 = .ok (.getfield 30, 3) := by decide +kernel
theorem dX8_pass_34 : decode cX8_pass 34 = .ok (.iload_n 1, 1) := by decide +kernel
theorem dX8_pass_35 : decode cX8_pass 35 = .ok (.invokevirtual 138, 3) := by decide +kernel
theorem dX8_pass_38 : decode cX8_pass 38 = .ok (.aload_n 0, 1) := by decide +kernel
theorem dX8_pass_39 : decode cX8_pass 39 = .ok (.getfield 30, 3) := by decide +kernel
theorem dX8_pass_42 : decode cX8_pass 42 = .ok (.getfield 135, 3) := by decide +kernel
theorem dX8_pass_45 : decode cX8_pass 45 = .ok (.iload_n 2, 1) := by decide +kernel
theorem dX8_pass_46 : decode cX8_pass 46 = .ok (.isub, 1) := by decide +kernel
theorem dX8_pass_47 : decode cX8_pass 47 = .ok (.ireturn, 1) := by decide +kernel
theorem dX8_counted_0 : decode cX8_counted 0 = .ok (.iconst 0, 1) := by decide +kernel
theorem dX8_counted_1 : decode cX8_counted 1 = .ok (.istore_n 2, 1) := by decide +kernel
theorem dX8_counted_2 : decode cX8_counted 2 = .ok (.iload_n 1, 1) := by decide +kernel
theorem dX8_counted_3 : decode cX8_counted 3 = .ok (.tableswitch 117 0 6 #[41, 49, 54, 69, 74, 101, 109], 41) := by decide +kernel
theorem dX8_counted_44 : decode cX8_counted 44 = .ok (.aload_n 0, 1) := by decide +kernel
theorem dX8_counted_45 : decode cX8_counted 45 = .ok (.getfield 30, 3) := by decide +kernel
theorem dX8_counted_48 : decode cX8_counted 48 = .ok (.getfield 98, 3) := by decide +kernel
theorem dX8_counted_51 : decode cX8_counted 51 = .ok (.ireturn, 1) := by decide +kernel
theorem dX8_counted_52 : decode cX8_counted 52 = .ok (.aload_n 0, 1) := by decide +kernel
theorem dX8_counted_53 : decode cX8_counted 53 = .ok (.getfield 41, 3) := by decide +kernel
theorem dX8_counted_56 : decode cX8_counted 56 = .ok (.ireturn, 1) := by decide +kernel
theorem dX8_counted_57 : decode cX8_counted 57 = .ok (.aload_n 0, 1) := by decide +kernel
theorem dX8_counted_58 : decode cX8_counted 58 = .ok (.aload_n 0, 1) := by decide +kernel
theorem dX8_counted_59 : decode cX8_counted 59 = .ok (.getfield 30, 3) := by decide +kernel
theorem dX8_counted_62 : decode cX8_counted 62 = .ok (.getfield 98, 3) := by decide +kernel
theorem dX8_counted_65 : decode cX8_counted 65 = .ok (.invokevirtual 101, 3) := by decide +kernel
theorem dX8_counted_68 : decode cX8_counted 68 = .ok (.invokestatic 142, 3) := by decide +kernel
theorem dX8_counted_71 : decode cX8_counted 71 = .ok (.ireturn, 1) := by decide +kernel
theorem dX8_counted_72 : decode cX8_counted 72 = .ok (.aload_n 0, 1) := by decide +kernel
theorem dX8_counted_73 : decode cX8_counted 73 = .ok (.getfield 48, 3) := by decide +kernel
theorem dX8_counted_76 : decode cX8_counted 76 = .ok (.ireturn, 1) := by decide +kernel
theorem dX8_counted_77 : decode cX8_counted 77 = .ok (.iconst 0, 1) := by decide +kernel
theorem dX8_counted_78 : decode cX8_counted 78 = .ok (.istore_n 3, 1) := by decide +kernel
theorem dX8_counted_79 : decode cX8_counted 79 = .ok (.iload_n 3, 1) := by decide +kernel
theorem dX8_counted_80 : decode cX8_counted 80 = .ok (.aload_n 0, 1) := by decide +kernel
theorem dX8_counted_81 : decode cX8_counted 81 = .ok (.getfield 48, 3) := by decide +kernel
theorem dX8_counted_84 : decode cX8_counted 84 = .ok (.if_icmp .ge 18, 3) := by decide +kernel
theorem dX8_counted_87 : decode cX8_counted 87 = .ok (.iload_n 2, 1) := by decide +kernel
theorem dX8_counted_88 : decode cX8_counted 88 = .ok (.aload_n 0, 1) := by decide +kernel
theorem dX8_counted_89 : decode cX8_counted 89 = .ok (.getfield 22, 3) := by decide +kernel
theorem dX8_counted_92 : decode cX8_counted 92 = .ok (.iload_n 3, 1) := by decide +kernel
theorem dX8_counted_93 : decode cX8_counted 93 = .ok (.iaload, 1) := by decide +kernel
theorem dX8_counted_94 : decode cX8_counted 94 = .ok (.iadd, 1) := by decide +kernel
theorem dX8_counted_95 : decode cX8_counted 95 = .ok (.istore_n 2, 1) := by decide +kernel
theorem dX8_counted_96 : decode cX8_counted 96 = .ok (.iinc 3 1, 3) := by decide +kernel
theorem dX8_counted_99 : decode cX8_counted 99 = .ok (.goto (-20), 3) := by decide +kernel
theorem dX8_counted_102 : decode cX8_counted 102 = .ok (.iload_n 2, 1) := by decide +kernel
theorem dX8_counted_103 : decode cX8_counted 103 = .ok (.ireturn, 1) := by decide +kernel
theorem dX8_counted_104 : decode cX8_counted 104 = .ok (.aload_n 0, 1) := by decide +kernel
theorem dX8_counted_105 : decode cX8_counted 105 = .ok (.getfield 30, 3) := by decide +kernel
theorem dX8_counted_108 : decode cX8_counted 108 = .ok (.getfield 135, 3) := by decide +kernel
theorem dX8_counted_111 : decode cX8_counted 111 = .ok (.ireturn, 1) := by decide +kernel
theorem dX8_counted_112 : decode cX8_counted 112 = .ok (.aload_n 0, 1) := by decide +kernel
theorem dX8_counted_113 : decode cX8_counted 113 = .ok (.getfield 30, 3) := by decide +kernel
theorem dX8_counted_116 : decode cX8_counted 116 = .ok (.getfield 147, 3) := by decide +kernel
theorem dX8_counted_119 : decode cX8_counted 119 = .ok (.ireturn, 1) := by decide +kernel
theorem dX8_counted_120 : decode cX8_counted 120 = .ok (.aload_n 0, 1) := by decide +kernel
theorem dX8_counted_121 : decode cX8_counted 121 = .ok (.getfield 30, 3) := by decide +kernel
theorem dX8_counted_124 : decode cX8_counted 124 = .ok (.getfield 129, 3) := by decide +kernel
theorem dX8_counted_127 : decode cX8_counted 127 = .ok (.ireturn, 1) := by decide +kernel
theorem dX8_count_0 : decode cX8_count 0 = .ok (.aload_n 0, 1) := by decide +kernel
theorem dX8_count_1 : decode cX8_count 1 = .ok (.iconst 0, 1) := by decide +kernel
theorem dX8_count_2 : decode cX8_count 2 = .ok (.putfield 37, 3) := by decide +kernel
theorem dX8_count_5 : decode cX8_count 5 = .ok (.iload_n 1, 1) := by decide +kernel
theorem dX8_count_6 : decode cX8_count 6 = .ok (.iconst 0, 1) := by decide +kernel
theorem dX8_count_7 : decode cX8_count 7 = .ok (.bipush 7, 2) := by decide +kernel
theorem dX8_count_9 : decode cX8_count 9 = .ok (.invokestatic 44, 3) := by decide +kernel
theorem dX8_count_12 : decode cX8_count 12 = .ok (.ifCond .eq 11, 3) := by decide +kernel
theorem dX8_count_15 : decode cX8_count 15 = .ok (.aload_n 0, 1) := by decide +kernel
theorem dX8_count_16 : decode cX8_count 16 = .ok (.iload_n 1, 1) := by decide +kernel
theorem dX8_count_17 : decode cX8_count 17 = .ok (.invokevirtual 150, 3) := by decide +kernel
theorem dX8_count_20 : decode cX8_count 20 = .ok (.goto 8, 3) := by decide +kernel
theorem dX8_count_23 : decode cX8_count 23 = .ok (.aload_n 0, 1) := by decide +kernel
theorem dX8_count_24 : decode cX8_count 24 = .ok (.iconst 1, 1) := by decide +kernel
theorem dX8_count_25 : decode cX8_count 25 = .ok (.invokevirtual 82, 3) := by decide +kernel
theorem dX8_count_28 : decode cX8_count 28 = .ok (.ireturn, 1) := by decide +kernel
theorem dX8_leads_0 : decode cX8_leads 0 = .ok (.aload_n 0, 1) := by decide +kernel
theorem dX8_leads_1 : decode cX8_leads 1 = .ok (.iload_n 1, 1) := by decide +kernel
theorem dX8_leads_2 : decode cX8_leads 2 = .ok (.iconst 1, 1) := by decide +kernel
theorem dX8_leads_3 : decode cX8_leads 3 = .ok (.invokevirtual 113, 3) := by decide +kernel
theorem dX8_leads_6 : decode cX8_leads 6 = .ok (.aload_n 0, 1) := by decide +kernel
theorem dX8_leads_7 : decode cX8_leads 7 = .ok (.iload_n 2, 1) := by decide +kernel
theorem dX8_leads_8 : decode cX8_leads 8 = .ok (.iconst 1, 1) := by decide +kernel
theorem dX8_leads_9 : decode cX8_leads 9 = .ok (.invokevirtual 113, 3) := by decide +kernel
theorem dX8_leads_12 : decode cX8_leads 12 = .ok (.isub, 1) := by decide +kernel
theorem dX8_leads_13 : decode cX8_leads 13 = .ok (.istore_n 3, 1) := by decide +kernel
theorem dX8_leads_14 : decode cX8_leads 14 = .ok (.iload_n 3, 1) := by decide +kernel
theorem dX8_leads_15 : decode cX8_leads 15 = .ok (.ifCond .eq 13, 3) := by decide +kernel
theorem dX8_leads_18 : decode cX8_leads 18 = .ok (.iload_n 3, 1) := by decide +kernel
theorem dX8_leads_19 : decode cX8_leads 19 = .ok (.ifCond .le 7, 3) := by decide +kernel
theorem dX8_leads_22 : decode cX8_leads 22 = .ok (.iconst 1, 1) := by decide +kernel
theorem dX8_leads_23 : decode cX8_leads 23 = .ok (.goto 4, 3) := by decide +kernel
theorem dX8_leads_26 : decode cX8_leads 26 = .ok (.iconst 0, 1) := by decide +kernel
theorem dX8_leads_27 : decode cX8_leads 27 = .ok (.ireturn, 1) := by decide +kernel
theorem dX8_leads_28 : decode cX8_leads 28 = .ok (.aload_n 0, 1) := by decide +kernel
theorem dX8_leads_29 : decode cX8_leads 29 = .ok (.getfield 30, 3) := by decide +kernel
theorem dX8_leads_32 : decode cX8_leads 32 = .ok (.getfield 55, 3) := by decide +kernel
theorem dX8_leads_35 : decode cX8_leads 35 = .ok (.iload_n 1, 1) := by decide +kernel
theorem dX8_leads_36 : decode cX8_leads 36 = .ok (.iaload, 1) := by decide +kernel
theorem dX8_leads_37 : decode cX8_leads 37 = .ok (.aload_n 0, 1) := by decide +kernel
theorem dX8_leads_38 : decode cX8_leads 38 = .ok (.getfield 30, 3) := by decide +kernel
theorem dX8_leads_41 : decode cX8_leads 41 = .ok (.getfield 55, 3) := by decide +kernel
theorem dX8_leads_44 : decode cX8_leads 44 = .ok (.iload_n 2, 1) := by decide +kernel
theorem dX8_leads_45 : decode cX8_leads 45 = .ok (.iaload, 1) := by decide +kernel
theorem dX8_leads_46 : decode cX8_leads 46 = .ok (.if_icmp .eq 32, 3) := by decide +kernel
theorem dX8_leads_49 : decode cX8_leads 49 = .ok (.aload_n 0, 1) := by decide +kernel
theorem dX8_leads_50 : decode cX8_leads 50 = .ok (.getfield 30, 3) := by decide +kernel
theorem dX8_leads_53 : decode cX8_leads 53 = .ok (.getfield 55, 3) := by decide +kernel
theorem dX8_leads_56 : decode cX8_leads 56 = .ok (.iload_n 1, 1) := by decide +kernel
theorem dX8_leads_57 : decode cX8_leads 57 = .ok (.iaload, 1) := by decide +kernel
theorem dX8_leads_58 : decode cX8_leads 58 = .ok (.aload_n 0, 1) := by decide +kernel
theorem dX8_leads_59 : decode cX8_leads 59 = .ok (.getfield 30, 3) := by decide +kernel
theorem dX8_leads_62 : decode cX8_leads 62 = .ok (.getfield 55, 3) := by decide +kernel
theorem dX8_leads_65 : decode cX8_leads 65 = .ok (.iload_n 2, 1) := by decide +kernel
theorem dX8_leads_66 : decode cX8_leads 66 = .ok (.iaload, 1) := by decide +kernel
theorem dX8_leads_67 : decode cX8_leads 67 = .ok (.if_icmp .le 7, 3) := by decide +kernel
theorem dX8_leads_70 : decode cX8_leads 70 = .ok (.iconst 1, 1) := by decide +kernel
theorem dX8_leads_71 : decode cX8_leads 71 = .ok (.goto 17, 3) := by decide +kernel
theorem dX8_leads_74 : decode cX8_leads 74 = .ok (.iconst 0, 1) := by decide +kernel
theorem dX8_leads_75 : decode cX8_leads 75 = .ok (.goto 13, 3) := by decide +kernel
theorem dX8_leads_78 : decode cX8_leads 78 = .ok (.iload_n 1, 1) := by decide +kernel
theorem dX8_leads_79 : decode cX8_leads 79 = .ok (.iload_n 2, 1) := by decide +kernel
theorem dX8_leads_80 : decode cX8_leads 80 = .ok (.if_icmp .ge 7, 3) := by decide +kernel
theorem dX8_leads_83 : decode cX8_leads 83 = .ok (.iconst 1, 1) := by decide +kernel
theorem dX8_leads_84 : decode cX8_leads 84 = .ok (.goto 4, 3) := by decide +kernel
theorem dX8_leads_87 : decode cX8_leads 87 = .ok (.iconst 0, 1) := by decide +kernel
theorem dX8_leads_88 : decode cX8_leads 88 = .ok (.ireturn, 1) := by decide +kernel
theorem dX8_rank_0 : decode cX8_rank 0 = .ok (.aload_n 0, 1) := by decide +kernel
theorem dX8_rank_1 : decode cX8_rank 1 = .ok (.iconst 0, 1) := by decide +kernel
theorem dX8_rank_2 : decode cX8_rank 2 = .ok (.putfield 37, 3) := by decide +kernel
theorem dX8_rank_5 : decode cX8_rank 5 = .ok (.aload_n 0, 1) := by decide +kernel
theorem dX8_rank_6 : decode cX8_rank 6 = .ok (.iload_n 1, 1) := by decide +kernel
theorem dX8_rank_7 : decode cX8_rank 7 = .ok (.invokevirtual 51, 3) := by decide +kernel
theorem dX8_rank_10 : decode cX8_rank 10 = .ok (.ifCond .ne 9, 3) := by decide +kernel
theorem dX8_rank_13 : decode cX8_rank 13 = .ok (.aload_n 0, 1) := by decide +kernel
theorem dX8_rank_14 : decode cX8_rank 14 = .ok (.iconst 1, 1) := by decide +kernel
theorem dX8_rank_15 : decode cX8_rank 15 = .ok (.invokevirtual 82, 3) := by decide +kernel
theorem dX8_rank_18 : decode cX8_rank 18 = .ok (.ireturn, 1) := by decide +kernel
theorem dX8_rank_19 : decode cX8_rank 19 = .ok (.iconst 0, 1) := by decide +kernel
theorem dX8_rank_20 : decode cX8_rank 20 = .ok (.istore_n 2, 1) := by decide +kernel
theorem dX8_rank_21 : decode cX8_rank 21 = .ok (.iload_n 2, 1) := by decide +kernel
theorem dX8_rank_22 : decode cX8_rank 22 = .ok (.aload_n 0, 1) := by decide +kernel
theorem dX8_rank_23 : decode cX8_rank 23 = .ok (.getfield 48, 3) := by decide +kernel
theorem dX8_rank_26 : decode cX8_rank 26 = .ok (.if_icmp .ge 60, 3) := by decide +kernel
theorem dX8_rank_29 : decode cX8_rank 29 = .ok (.iconst 0, 1) := by decide +kernel
theorem dX8_rank_30 : decode cX8_rank 30 = .ok (.istore_n 3, 1) := by decide +kernel
theorem dX8_rank_31 : decode cX8_rank 31 = .ok (.iconst 0, 1) := by decide +kernel
theorem dX8_rank_32 : decode cX8_rank 32 = .ok (.istore 4, 2) := by decide +kernel
theorem dX8_rank_34 : decode cX8_rank 34 = .ok (.iload 4, 2) := by decide +kernel
theorem dX8_rank_36 : decode cX8_rank 36 = .ok (.aload_n 0, 1) := by decide +kernel
theorem dX8_rank_37 : decode cX8_rank 37 = .ok (.getfield 48, 3) := by decide +kernel
theorem dX8_rank_40 : decode cX8_rank 40 = .ok (.if_icmp .ge 33, 3) := by decide +kernel
theorem dX8_rank_43 : decode cX8_rank 43 = .ok (.iload_n 3, 1) := by decide +kernel
theorem dX8_rank_44 : decode cX8_rank 44 = .ok (.iload 4, 2) := by decide +kernel
theorem dX8_rank_46 : decode cX8_rank 46 = .ok (.iload_n 2, 1) := by decide +kernel
theorem dX8_rank_47 : decode cX8_rank 47 = .ok (.if_icmp .eq 17, 3) := by decide +kernel
theorem dX8_rank_50 : decode cX8_rank 50 = .ok (.aload_n 0, 1) := by decide +kernel
theorem dX8_rank_51 : decode cX8_rank 51 = .ok (.iload 4, 2) := by decide +kernel
theorem dX8_rank_53 : decode cX8_rank 53 = .ok (.iload_n 2, 1) := by decide +kernel
theorem dX8_rank_54 : decode cX8_rank 54 = .ok (.invokevirtual 153, 3) := by decide +kernel
theorem dX8_rank_57 : decode cX8_rank 57 = .ok (.ifCond .eq 7, 3) := by decide +kernel
theorem dX8_rank_60 : decode cX8_rank 60 = .ok (.iconst 1, 1) := by decide +kernel
theorem dX8_rank_61 : decode cX8_rank 61 = .ok (.goto 4, 3) := by decide +kernel
theorem dX8_rank_64 : decode cX8_rank 64 = .ok (.iconst 0, 1) := by decide +kernel
theorem dX8_rank_65 : decode cX8_rank 65 = .ok (.iadd, 1) := by decide +kernel
theorem dX8_rank_66 : decode cX8_rank 66 = .ok (.istore_n 3, 1) := by decide +kernel
theorem dX8_rank_67 : decode cX8_rank 67 = .ok (.iinc 4 1, 3) := by decide +kernel
theorem dX8_rank_70 : decode cX8_rank 70 = .ok (.goto (-36), 3) := by decide +kernel
theorem dX8_rank_73 : decode cX8_rank 73 = .ok (.iload_n 3, 1) := by decide +kernel
theorem dX8_rank_74 : decode cX8_rank 74 = .ok (.iload_n 1, 1) := by decide +kernel
theorem dX8_rank_75 : decode cX8_rank 75 = .ok (.if_icmp .ne 5, 3) := by decide +kernel
theorem dX8_rank_78 : decode cX8_rank 78 = .ok (.iload_n 2, 1) := by decide +kernel
theorem dX8_rank_79 : decode cX8_rank 79 = .ok (.ireturn, 1) := by decide +kernel
theorem dX8_rank_80 : decode cX8_rank 80 = .ok (.iinc 2 1, 3) := by decide +kernel
theorem dX8_rank_83 : decode cX8_rank 83 = .ok (.goto (-62), 3) := by decide +kernel
theorem dX8_rank_86 : decode cX8_rank 86 = .ok (.iconst (-1), 1) := by decide +kernel
theorem dX8_rank_87 : decode cX8_rank 87 = .ok (.ireturn, 1) := by decide +kernel
theorem dX8_dial_0 : decode cX8_dial 0 = .ok (.aload_n 0, 1) := by decide +kernel
theorem dX8_dial_1 : decode cX8_dial 1 = .ok (.iconst 0, 1) := by decide +kernel
theorem dX8_dial_2 : decode cX8_dial 2 = .ok (.putfield 37, 3) := by decide +kernel
theorem dX8_dial_5 : decode cX8_dial 5 = .ok (.aload_n 0, 1) := by decide +kernel
theorem dX8_dial_6 : decode cX8_dial 6 = .ok (.iload_n 1, 1) := by decide +kernel
theorem dX8_dial_7 : decode cX8_dial 7 = .ok (.invokevirtual 51, 3) := by decide +kernel
theorem dX8_dial_10 : decode cX8_dial 10 = .ok (.ifCond .eq 11, 3) := by decide +kernel
theorem dX8_dial_13 : decode cX8_dial 13 = .ok (.aload_n 0, 1) := by decide +kernel
theorem dX8_dial_14 : decode cX8_dial 14 = .ok (.iload_n 2, 1) := by decide +kernel
theorem dX8_dial_15 : decode cX8_dial 15 = .ok (.invokevirtual 107, 3) := by decide +kernel
theorem dX8_dial_18 : decode cX8_dial 18 = .ok (.ifCond .ne 9, 3) := by decide +kernel
theorem dX8_dial_21 : decode cX8_dial 21 = .ok (.aload_n 0, 1) := by decide +kernel
theorem dX8_dial_22 : decode cX8_dial 22 = .ok (.iconst 1, 1) := by decide +kernel
theorem dX8_dial_23 : decode cX8_dial 23 = .ok (.invokevirtual 82, 3) := by decide +kernel
theorem dX8_dial_26 : decode cX8_dial 26 = .ok (.ireturn, 1) := by decide +kernel
theorem dX8_dial_27 : decode cX8_dial 27 = .ok (.aload_n 0, 1) := by decide +kernel
theorem dX8_dial_28 : decode cX8_dial 28 = .ok (.aload_n 0, 1) := by decide +kernel
theorem dX8_dial_29 : decode cX8_dial 29 = .ok (.getfield 30, 3) := by decide +kernel
theorem dX8_dial_32 : decode cX8_dial 32 = .ok (.getfield 98, 3) := by decide +kernel
theorem dX8_dial_35 : decode cX8_dial 35 = .ok (.invokevirtual 101, 3) := by decide +kernel
theorem dX8_dial_38 : decode cX8_dial 38 = .ok (.istore_n 3, 1) := by decide +kernel
theorem dX8_dial_39 : decode cX8_dial 39 = .ok (.iconst (-1), 1) := by decide +kernel
theorem dX8_dial_40 : decode cX8_dial 40 = .ok (.istore 4, 2) := by decide +kernel
theorem dX8_dial_42 : decode cX8_dial 42 = .ok (.iconst 0, 1) := by decide +kernel
theorem dX8_dial_43 : decode cX8_dial 43 = .ok (.istore 5, 2) := by decide +kernel
theorem dX8_dial_45 : decode cX8_dial 45 = .ok (.iconst 0, 1) := by decide +kernel
theorem dX8_dial_46 : decode cX8_dial 46 = .ok (.istore 6, 2) := by decide +kernel
theorem dX8_dial_48 : decode cX8_dial 48 = .ok (.iload 6, 2) := by decide +kernel
theorem dX8_dial_50 : decode cX8_dial 50 = .ok (.bipush 100, 2) := by decide +kernel
theorem dX8_dial_52 : decode cX8_dial 52 = .ok (.if_icmp .gt 96, 3) := by decide +kernel
theorem dX8_dial_55 : decode cX8_dial 55 = .ok (.aload_n 0, 1) := by decide +kernel
theorem dX8_dial_56 : decode cX8_dial 56 = .ok (.iload_n 1, 1) := by decide +kernel
theorem dX8_dial_57 : decode cX8_dial 57 = .ok (.aload_n 0, 1) := by decide +kernel
theorem dX8_dial_58 : decode cX8_dial 58 = .ok (.getfield 30, 3) := by decide +kernel
theorem dX8_dial_61 : decode cX8_dial 61 = .ok (.getfield 98, 3) := by decide +kernel
theorem dX8_dial_64 : decode cX8_dial 64 = .ok (.aload_n 0, 1) := by decide +kernel
theorem dX8_dial_65 : decode cX8_dial 65 = .ok (.getfield 13, 3) := by decide +kernel
theorem dX8_dial_68 : decode cX8_dial 68 = .ok (.iload_n 1, 1) := by decide +kernel
theorem dX8_dial_69 : decode cX8_dial 69 = .ok (.iaload, 1) := by decide +kernel
theorem dX8_dial_70 : decode cX8_dial 70 = .ok (.iload 6, 2) := by decide +kernel
theorem dX8_dial_72 : decode cX8_dial 72 = .ok (.aload_n 0, 1) := by decide +kernel
theorem dX8_dial_73 : decode cX8_dial 73 = .ok (.getfield 30, 3) := by decide +kernel
theorem dX8_dial_76 : decode cX8_dial 76 = .ok (.getfield 91, 3) := by decide +kernel
theorem dX8_dial_79 : decode cX8_dial 79 = .ok (.iload_n 1, 1) := by decide +kernel
theorem dX8_dial_80 : decode cX8_dial 80 = .ok (.iaload, 1) := by decide +kernel
theorem dX8_dial_81 : decode cX8_dial 81 = .ok (.iload_n 3, 1) := by decide +kernel
theorem dX8_dial_82 : decode cX8_dial 82 = .ok (.invokevirtual 120, 3) := by decide +kernel
theorem dX8_dial_85 : decode cX8_dial 85 = .ok (.iload_n 2, 1) := by decide +kernel
theorem dX8_dial_86 : decode cX8_dial 86 = .ok (.if_icmp .eq 6, 3) := by decide +kernel
theorem dX8_dial_89 : decode cX8_dial 89 = .ok (.goto 53, 3) := by decide +kernel
theorem dX8_dial_92 : decode cX8_dial 92 = .ok (.aload_n 0, 1) := by decide +kernel
theorem dX8_dial_93 : decode cX8_dial 93 = .ok (.iload_n 1, 1) := by decide +kernel
theorem dX8_dial_94 : decode cX8_dial 94 = .ok (.iload_n 2, 1) := by decide +kernel
theorem dX8_dial_95 : decode cX8_dial 95 = .ok (.aload_n 0, 1) := by decide +kernel
theorem dX8_dial_96 : decode cX8_dial 96 = .ok (.getfield 30, 3) := by decide +kernel
theorem dX8_dial_99 : decode cX8_dial 99 = .ok (.getfield 98, 3) := by decide +kernel
theorem dX8_dial_102 : decode cX8_dial 102 = .ok (.aload_n 0, 1) := by decide +kernel
theorem dX8_dial_103 : decode cX8_dial 103 = .ok (.getfield 13, 3) := by decide +kernel
theorem dX8_dial_106 : decode cX8_dial 106 = .ok (.iload_n 1, 1) := by decide +kernel
theorem dX8_dial_107 : decode cX8_dial 107 = .ok (.iaload, 1) := by decide +kernel
theorem dX8_dial_108 : decode cX8_dial 108 = .ok (.iload 6, 2) := by decide +kernel
theorem dX8_dial_110 : decode cX8_dial 110 = .ok (.aload_n 0, 1) := by decide +kernel
theorem dX8_dial_111 : decode cX8_dial 111 = .ok (.getfield 30, 3) := by decide +kernel
theorem dX8_dial_114 : decode cX8_dial 114 = .ok (.getfield 91, 3) := by decide +kernel
theorem dX8_dial_117 : decode cX8_dial 117 = .ok (.iload_n 1, 1) := by decide +kernel
theorem dX8_dial_118 : decode cX8_dial 118 = .ok (.iaload, 1) := by decide +kernel
theorem dX8_dial_119 : decode cX8_dial 119 = .ok (.invokevirtual 78, 3) := by decide +kernel
theorem dX8_dial_122 : decode cX8_dial 122 = .ok (.istore 7, 2) := by decide +kernel
theorem dX8_dial_124 : decode cX8_dial 124 = .ok (.iload 7, 2) := by decide +kernel
theorem dX8_dial_126 : decode cX8_dial 126 = .ok (.iload 5, 2) := by decide +kernel
theorem dX8_dial_128 : decode cX8_dial 128 = .ok (.if_icmp .gt 6, 3) := by decide +kernel
theorem dX8_dial_131 : decode cX8_dial 131 = .ok (.goto 11, 3) := by decide +kernel
theorem dX8_dial_134 : decode cX8_dial 134 = .ok (.iload 7, 2) := by decide +kernel
theorem dX8_dial_136 : decode cX8_dial 136 = .ok (.istore 5, 2) := by decide +kernel
theorem dX8_dial_138 : decode cX8_dial 138 = .ok (.iload 6, 2) := by decide +kernel
theorem dX8_dial_140 : decode cX8_dial 140 = .ok (.istore 4, 2) := by decide +kernel
theorem dX8_dial_142 : decode cX8_dial 142 = .ok (.iinc 6 1, 3) := by decide +kernel
theorem dX8_dial_145 : decode cX8_dial 145 = .ok (.goto (-97), 3) := by decide +kernel
theorem dX8_dial_148 : decode cX8_dial 148 = .ok (.iload 4, 2) := by decide +kernel
theorem dX8_dial_150 : decode cX8_dial 150 = .ok (.ireturn, 1) := by decide +kernel
theorem dX8_next_0 : decode cX8_next 0 = .ok (.aload_n 0, 1) := by decide +kernel
theorem dX8_next_1 : decode cX8_next 1 = .ok (.iconst 0, 1) := by decide +kernel
theorem dX8_next_2 : decode cX8_next 2 = .ok (.putfield 37, 3) := by decide +kernel
theorem dX8_next_5 : decode cX8_next 5 = .ok (.aload_n 0, 1) := by decide +kernel
theorem dX8_next_6 : decode cX8_next 6 = .ok (.iload_n 1, 1) := by decide +kernel
theorem dX8_next_7 : decode cX8_next 7 = .ok (.invokevirtual 51, 3) := by decide +kernel
theorem dX8_next_10 : decode cX8_next 10 = .ok (.ifCond .eq 11, 3) := by decide +kernel
theorem dX8_next_13 : decode cX8_next 13 = .ok (.aload_n 0, 1) := by decide +kernel
theorem dX8_next_14 : decode cX8_next 14 = .ok (.iload_n 2, 1) := by decide +kernel
theorem dX8_next_15 : decode cX8_next 15 = .ok (.invokevirtual 107, 3) := by decide +kernel
theorem dX8_next_18 : decode cX8_next 18 = .ok (.ifCond .ne 9, 3) := by decide +kernel
theorem dX8_next_21 : decode cX8_next 21 = .ok (.aload_n 0, 1) := by decide +kernel
theorem dX8_next_22 : decode cX8_next 22 = .ok (.iconst 1, 1) := by decide +kernel
theorem dX8_next_23 : decode cX8_next 23 = .ok (.invokevirtual 82, 3) := by decide +kernel
theorem dX8_next_26 : decode cX8_next 26 = .ok (.ireturn, 1) := by decide +kernel
theorem dX8_next_27 : decode cX8_next 27 = .ok (.iconst 0, 1) := by decide +kernel
theorem dX8_next_28 : decode cX8_next 28 = .ok (.istore_n 3, 1) := by decide +kernel
theorem dX8_next_29 : decode cX8_next 29 = .ok (.iload_n 3, 1) := by decide +kernel
theorem dX8_next_30 : decode cX8_next 30 = .ok (.bipush 96, 2) := by decide +kernel
theorem dX8_next_32 : decode cX8_next 32 = .ok (.if_icmp .gt 60, 3) := by decide +kernel
theorem dX8_next_35 : decode cX8_next 35 = .ok (.aload_n 0, 1) := by decide +kernel
theorem dX8_next_36 : decode cX8_next 36 = .ok (.getfield 30, 3) := by decide +kernel
theorem dX8_next_39 : decode cX8_next 39 = .ok (.getfield 98, 3) := by decide +kernel
theorem dX8_next_42 : decode cX8_next 42 = .ok (.iload_n 3, 1) := by decide +kernel
theorem dX8_next_43 : decode cX8_next 43 = .ok (.iadd, 1) := by decide +kernel
theorem dX8_next_44 : decode cX8_next 44 = .ok (.istore 4, 2) := by decide +kernel
theorem dX8_next_46 : decode cX8_next 46 = .ok (.aload_n 0, 1) := by decide +kernel
theorem dX8_next_47 : decode cX8_next 47 = .ok (.iload_n 1, 1) := by decide +kernel
theorem dX8_next_48 : decode cX8_next 48 = .ok (.iload 4, 2) := by decide +kernel
theorem dX8_next_50 : decode cX8_next 50 = .ok (.aload_n 0, 1) := by decide +kernel
theorem dX8_next_51 : decode cX8_next 51 = .ok (.getfield 13, 3) := by decide +kernel
theorem dX8_next_54 : decode cX8_next 54 = .ok (.iload_n 1, 1) := by decide +kernel
theorem dX8_next_55 : decode cX8_next 55 = .ok (.iaload, 1) := by decide +kernel
theorem dX8_next_56 : decode cX8_next 56 = .ok (.aload_n 0, 1) := by decide +kernel
theorem dX8_next_57 : decode cX8_next 57 = .ok (.getfield 16, 3) := by decide +kernel
theorem dX8_next_60 : decode cX8_next 60 = .ok (.iload_n 1, 1) := by decide +kernel
theorem dX8_next_61 : decode cX8_next 61 = .ok (.iaload, 1) := by decide +kernel
theorem dX8_next_62 : decode cX8_next 62 = .ok (.aload_n 0, 1) := by decide +kernel
theorem dX8_next_63 : decode cX8_next 63 = .ok (.getfield 30, 3) := by decide +kernel
theorem dX8_next_66 : decode cX8_next 66 = .ok (.getfield 91, 3) := by decide +kernel
theorem dX8_next_69 : decode cX8_next 69 = .ok (.iload_n 1, 1) := by decide +kernel
theorem dX8_next_70 : decode cX8_next 70 = .ok (.iaload, 1) := by decide +kernel
theorem dX8_next_71 : decode cX8_next 71 = .ok (.aload_n 0, 1) := by decide +kernel
theorem dX8_next_72 : decode cX8_next 72 = .ok (.iload 4, 2) := by decide +kernel
theorem dX8_next_74 : decode cX8_next 74 = .ok (.invokevirtual 101, 3) := by decide +kernel
theorem dX8_next_77 : decode cX8_next 77 = .ok (.invokevirtual 120, 3) := by decide +kernel
theorem dX8_next_80 : decode cX8_next 80 = .ok (.iload_n 2, 1) := by decide +kernel
theorem dX8_next_81 : decode cX8_next 81 = .ok (.if_icmp .ne 5, 3) := by decide +kernel
theorem dX8_next_84 : decode cX8_next 84 = .ok (.iload_n 3, 1) := by decide +kernel
theorem dX8_next_85 : decode cX8_next 85 = .ok (.ireturn, 1) := by decide +kernel
theorem dX8_next_86 : decode cX8_next 86 = .ok (.iinc 3 1, 3) := by decide +kernel
theorem dX8_next_89 : decode cX8_next 89 = .ok (.goto (-60), 3) := by decide +kernel
theorem dX8_next_92 : decode cX8_next 92 = .ok (.iconst (-1), 1) := by decide +kernel
theorem dX8_next_93 : decode cX8_next 93 = .ok (.ireturn, 1) := by decide +kernel
theorem dX8_apart_0 : decode cX8_apart 0 = .ok (.aload_n 0, 1) := by decide +kernel
theorem dX8_apart_1 : decode cX8_apart 1 = .ok (.iconst 0, 1) := by decide +kernel
theorem dX8_apart_2 : decode cX8_apart 2 = .ok (.putfield 37, 3) := by decide +kernel
theorem dX8_apart_5 : decode cX8_apart 5 = .ok (.aload_n 0, 1) := by decide +kernel
theorem dX8_apart_6 : decode cX8_apart 6 = .ok (.iload_n 1, 1) := by decide +kernel
theorem dX8_apart_7 : decode cX8_apart 7 = .ok (.invokevirtual 51, 3) := by decide +kernel
theorem dX8_apart_10 : decode cX8_apart 10 = .ok (.ifCond .eq 19, 3) := by decide +kernel
theorem dX8_apart_13 : decode cX8_apart 13 = .ok (.aload_n 0, 1) := by decide +kernel
theorem dX8_apart_14 : decode cX8_apart 14 = .ok (.iload_n 2, 1) := by decide +kernel
theorem dX8_apart_15 : decode cX8_apart 15 = .ok (.invokevirtual 107, 3) := by decide +kernel
theorem dX8_apart_18 : decode cX8_apart 18 = .ok (.ifCond .eq 11, 3) := by decide +kernel
theorem dX8_apart_21 : decode cX8_apart 21 = .ok (.aload_n 0, 1) := by decide +kernel
theorem dX8_apart_22 : decode cX8_apart 22 = .ok (.iload_n 3, 1) := by decide +kernel
theorem dX8_apart_23 : decode cX8_apart 23 = .ok (.invokevirtual 107, 3) := by decide +kernel
theorem dX8_apart_26 : decode cX8_apart 26 = .ok (.ifCond .ne 9, 3) := by decide +kernel
theorem dX8_apart_29 : decode cX8_apart 29 = .ok (.aload_n 0, 1) := by decide +kernel
theorem dX8_apart_30 : decode cX8_apart 30 = .ok (.iconst 1, 1) := by decide +kernel
theorem dX8_apart_31 : decode cX8_apart 31 = .ok (.invokevirtual 82, 3) := by decide +kernel
theorem dX8_apart_34 : decode cX8_apart 34 = .ok (.ireturn, 1) := by decide +kernel
theorem dX8_apart_35 : decode cX8_apart 35 = .ok (.iload_n 2, 1) := by decide +kernel
theorem dX8_apart_36 : decode cX8_apart 36 = .ok (.iload_n 3, 1) := by decide +kernel
theorem dX8_apart_37 : decode cX8_apart 37 = .ok (.if_icmp .ne 9, 3) := by decide +kernel
theorem dX8_apart_40 : decode cX8_apart 40 = .ok (.aload_n 0, 1) := by decide +kernel
theorem dX8_apart_41 : decode cX8_apart 41 = .ok (.iconst 2, 1) := by decide +kernel
theorem dX8_apart_42 : decode cX8_apart 42 = .ok (.invokevirtual 82, 3) := by decide +kernel
theorem dX8_apart_45 : decode cX8_apart 45 = .ok (.ireturn, 1) := by decide +kernel
theorem dX8_apart_46 : decode cX8_apart 46 = .ok (.iconst 1, 1) := by decide +kernel
theorem dX8_apart_47 : decode cX8_apart 47 = .ok (.iload_n 2, 1) := by decide +kernel
theorem dX8_apart_48 : decode cX8_apart 48 = .ok (.ishl, 1) := by decide +kernel
theorem dX8_apart_49 : decode cX8_apart 49 = .ok (.iconst 1, 1) := by decide +kernel
theorem dX8_apart_50 : decode cX8_apart 50 = .ok (.iload_n 3, 1) := by decide +kernel
theorem dX8_apart_51 : decode cX8_apart 51 = .ok (.ishl, 1) := by decide +kernel
theorem dX8_apart_52 : decode cX8_apart 52 = .ok (.ior, 1) := by decide +kernel
theorem dX8_apart_53 : decode cX8_apart 53 = .ok (.istore 4, 2) := by decide +kernel
theorem dX8_apart_55 : decode cX8_apart 55 = .ok (.bipush 20, 2) := by decide +kernel
theorem dX8_apart_57 : decode cX8_apart 57 = .ok (.istore 5, 2) := by decide +kernel
theorem dX8_apart_59 : decode cX8_apart 59 = .ok (.iload 5, 2) := by decide +kernel
theorem dX8_apart_61 : decode cX8_apart 61 = .ok (.sipush 200, 3) := by decide +kernel
theorem dX8_apart_64 : decode cX8_apart 64 = .ok (.if_icmp .gt 105, 3) := by decide +kernel
theorem dX8_apart_67 : decode cX8_apart 67 = .ok (.iconst 0, 1) := by decide +kernel
theorem dX8_apart_68 : decode cX8_apart 68 = .ok (.istore 6, 2) := by decide +kernel
theorem dX8_apart_70 : decode cX8_apart 70 = .ok (.iconst 0, 1) := by decide +kernel
theorem dX8_apart_71 : decode cX8_apart 71 = .ok (.istore 7, 2) := by decide +kernel
theorem dX8_apart_73 : decode cX8_apart 73 = .ok (.iconst 0, 1) := by decide +kernel
theorem dX8_apart_74 : decode cX8_apart 74 = .ok (.istore 8, 2) := by decide +kernel
theorem dX8_apart_76 : decode cX8_apart 76 = .ok (.iload 8, 2) := by decide +kernel
theorem dX8_apart_78 : decode cX8_apart 78 = .ok (.bipush 100, 2) := by decide +kernel
theorem dX8_apart_80 : decode cX8_apart 80 = .ok (.if_icmp .gt 70, 3) := by decide +kernel
theorem dX8_apart_83 : decode cX8_apart 83 = .ok (.aload_n 0, 1) := by decide +kernel
theorem dX8_apart_84 : decode cX8_apart 84 = .ok (.iload_n 1, 1) := by decide +kernel
theorem dX8_apart_85 : decode cX8_apart 85 = .ok (.aload_n 0, 1) := by decide +kernel
theorem dX8_apart_86 : decode cX8_apart 86 = .ok (.getfield 30, 3) := by decide +kernel
theorem dX8_apart_89 : decode cX8_apart 89 = .ok (.getfield 98, 3) := by decide +kernel
theorem dX8_apart_92 : decode cX8_apart 92 = .ok (.iload 5, 2) := by decide +kernel
theorem dX8_apart_94 : decode cX8_apart 94 = .ok (.iload 8, 2) := by decide +kernel
theorem dX8_apart_96 : decode cX8_apart 96 = .ok (.aload_n 0, 1) := by decide +kernel
theorem dX8_apart_97 : decode cX8_apart 97 = .ok (.getfield 30, 3) := by decide +kernel
theorem dX8_apart_100 : decode cX8_apart 100 = .ok (.getfield 91, 3) := by decide +kernel
theorem dX8_apart_103 : decode cX8_apart 103 = .ok (.iload_n 1, 1) := by decide +kernel
theorem dX8_apart_104 : decode cX8_apart 104 = .ok (.iaload, 1) := by decide +kernel
theorem dX8_apart_105 : decode cX8_apart 105 = .ok (.iload 4, 2) := by decide +kernel
theorem dX8_apart_107 : decode cX8_apart 107 = .ok (.invokevirtual 120, 3) := by decide +kernel
theorem dX8_apart_110 : decode cX8_apart 110 = .ok (.istore 9, 2) := by decide +kernel
theorem dX8_apart_112 : decode cX8_apart 112 = .ok (.iload 6, 2) := by decide +kernel
theorem dX8_apart_114 : decode cX8_apart 114 = .ok (.iload 9, 2) := by decide +kernel
theorem dX8_apart_116 : decode cX8_apart 116 = .ok (.iload_n 2, 1) := by decide +kernel
theorem dX8_apart_117 : decode cX8_apart 117 = .ok (.if_icmp .ne 7, 3) := by decide +kernel
theorem dX8_apart_120 : decode cX8_apart 120 = .ok (.iconst 1, 1) := by decide +kernel
theorem dX8_apart_121 : decode cX8_apart 121 = .ok (.goto 4, 3) := by decide +kernel
theorem dX8_apart_124 : decode cX8_apart 124 = .ok (.iconst 0, 1) := by decide +kernel
theorem dX8_apart_125 : decode cX8_apart 125 = .ok (.ior, 1) := by decide +kernel
theorem dX8_apart_126 : decode cX8_apart 126 = .ok (.istore 6, 2) := by decide +kernel
theorem dX8_apart_128 : decode cX8_apart 128 = .ok (.iload 7, 2) := by decide +kernel
theorem dX8_apart_130 : decode cX8_apart 130 = .ok (.iload 9, 2) := by decide +kernel
theorem dX8_apart_132 : decode cX8_apart 132 = .ok (.iload_n 3, 1) := by decide +kernel
theorem dX8_apart_133 : decode cX8_apart 133 = .ok (.if_icmp .ne 7, 3) := by decide +kernel
theorem dX8_apart_136 : decode cX8_apart 136 = .ok (.iconst 1, 1) := by decide +kernel
theorem dX8_apart_137 : decode cX8_apart 137 = .ok (.goto 4, 3) := by decide +kernel
theorem dX8_apart_140 : decode cX8_apart 140 = .ok (.iconst 0, 1) := by decide +kernel
theorem dX8_apart_141 : decode cX8_apart 141 = .ok (.ior, 1) := by decide +kernel
theorem dX8_apart_142 : decode cX8_apart 142 = .ok (.istore 7, 2) := by decide +kernel
theorem dX8_apart_144 : decode cX8_apart 144 = .ok (.iinc 8 1, 3) := by decide +kernel
theorem dX8_apart_147 : decode cX8_apart 147 = .ok (.goto (-71), 3) := by decide +kernel
theorem dX8_apart_150 : decode cX8_apart 150 = .ok (.iload 6, 2) := by decide +kernel
theorem dX8_apart_152 : decode cX8_apart 152 = .ok (.ifCond .eq 11, 3) := by decide +kernel
theorem dX8_apart_155 : decode cX8_apart 155 = .ok (.iload 7, 2) := by decide +kernel
theorem dX8_apart_157 : decode cX8_apart 157 = .ok (.ifCond .eq 6, 3) := by decide +kernel
theorem dX8_apart_160 : decode cX8_apart 160 = .ok (.iload 5, 2) := by decide +kernel
theorem dX8_apart_162 : decode cX8_apart 162 = .ok (.ireturn, 1) := by decide +kernel
theorem dX8_apart_163 : decode cX8_apart 163 = .ok (.iinc 5 1, 3) := by decide +kernel
theorem dX8_apart_166 : decode cX8_apart 166 = .ok (.goto (-107), 3) := by decide +kernel
theorem dX8_apart_169 : decode cX8_apart 169 = .ok (.iconst (-1), 1) := by decide +kernel
theorem dX8_apart_170 : decode cX8_apart 170 = .ok (.ireturn, 1) := by decide +kernel
theorem dX8_foresee_0 : decode cX8_foresee 0 = .ok (.aload_n 0, 1) := by decide +kernel
theorem dX8_foresee_1 : decode cX8_foresee 1 = .ok (.iconst 0, 1) := by decide +kernel
theorem dX8_foresee_2 : decode cX8_foresee 2 = .ok (.putfield 37, 3) := by decide +kernel
theorem dX8_foresee_5 : decode cX8_foresee 5 = .ok (.iload_n 1, 1) := by decide +kernel
theorem dX8_foresee_6 : decode cX8_foresee 6 = .ok (.iconst 1, 1) := by decide +kernel
theorem dX8_foresee_7 : decode cX8_foresee 7 = .ok (.sipush 240, 3) := by decide +kernel
theorem dX8_foresee_10 : decode cX8_foresee 10 = .ok (.invokestatic 44, 3) := by decide +kernel
theorem dX8_foresee_13 : decode cX8_foresee 13 = .ok (.ifCond .ne 9, 3) := by decide +kernel
theorem dX8_foresee_16 : decode cX8_foresee 16 = .ok (.aload_n 0, 1) := by decide +kernel
theorem dX8_foresee_17 : decode cX8_foresee 17 = .ok (.iconst 1, 1) := by decide +kernel
theorem dX8_foresee_18 : decode cX8_foresee 18 = .ok (.invokevirtual 82, 3) := by decide +kernel
theorem dX8_foresee_21 : decode cX8_foresee 21 = .ok (.ireturn, 1) := by decide +kernel
theorem dX8_foresee_22 : decode cX8_foresee 22 = .ok (.iload_n 2, 1) := by decide +kernel
theorem dX8_foresee_23 : decode cX8_foresee 23 = .ok (.iconst 0, 1) := by decide +kernel
theorem dX8_foresee_24 : decode cX8_foresee 24 = .ok (.iconst 1, 1) := by decide +kernel
theorem dX8_foresee_25 : decode cX8_foresee 25 = .ok (.invokestatic 44, 3) := by decide +kernel
theorem dX8_foresee_28 : decode cX8_foresee 28 = .ok (.ifCond .ne 9, 3) := by decide +kernel
theorem dX8_foresee_31 : decode cX8_foresee 31 = .ok (.aload_n 0, 1) := by decide +kernel
theorem dX8_foresee_32 : decode cX8_foresee 32 = .ok (.iconst 2, 1) := by decide +kernel
theorem dX8_foresee_33 : decode cX8_foresee 33 = .ok (.invokevirtual 82, 3) := by decide +kernel
theorem dX8_foresee_36 : decode cX8_foresee 36 = .ok (.ireturn, 1) := by decide +kernel
theorem dX8_foresee_37 : decode cX8_foresee 37 = .ok (.aload_n 0, 1) := by decide +kernel
theorem dX8_foresee_38 : decode cX8_foresee 38 = .ok (.getfield 34, 3) := by decide +kernel
theorem dX8_foresee_41 : decode cX8_foresee 41 = .ok (.aload_n 0, 1) := by decide +kernel
theorem dX8_foresee_42 : decode cX8_foresee 42 = .ok (.getfield 30, 3) := by decide +kernel
theorem dX8_foresee_45 : decode cX8_foresee 45 = .ok (.invokevirtual 156, 3) := by decide +kernel
theorem dX8_foresee_48 : decode cX8_foresee 48 = .ok (.aload_n 0, 1) := by decide +kernel
theorem dX8_foresee_49 : decode cX8_foresee 49 = .ok (.getfield 34, 3) := by decide +kernel
theorem dX8_foresee_52 : decode cX8_foresee 52 = .ok (.iload_n 1, 1) := by decide +kernel
theorem dX8_foresee_53 : decode cX8_foresee 53 = .ok (.invokevirtual 138, 3) := by decide +kernel
theorem dX8_foresee_56 : decode cX8_foresee 56 = .ok (.iload_n 2, 1) := by decide +kernel
theorem dX8_foresee_57 : decode cX8_foresee 57 = .ok (.ifCond .ne 21, 3) := by decide +kernel
theorem dX8_foresee_60 : decode cX8_foresee 60 = .ok (.aload_n 0, 1) := by decide +kernel
theorem dX8_foresee_61 : decode cX8_foresee 61 = .ok (.getfield 34, 3) := by decide +kernel
theorem dX8_foresee_64 : decode cX8_foresee 64 = .ok (.getfield 135, 3) := by decide +kernel
theorem dX8_foresee_67 : decode cX8_foresee 67 = .ok (.aload_n 0, 1) := by decide +kernel
theorem dX8_foresee_68 : decode cX8_foresee 68 = .ok (.getfield 30, 3) := by decide +kernel
theorem dX8_foresee_71 : decode cX8_foresee 71 = .ok (.getfield 135, 3) := by decide +kernel
theorem dX8_foresee_74 : decode cX8_foresee 74 = .ok (.isub, 1) := by decide +kernel
theorem dX8_foresee_75 : decode cX8_foresee 75 = .ok (.goto 18, 3) := by decide +kernel
theorem dX8_foresee_78 : decode cX8_foresee 78 = .ok (.aload_n 0, 1) := by decide +kernel
theorem dX8_foresee_79 : decode cX8_foresee 79 = .ok (.getfield 34, 3) := by decide +kernel
theorem dX8_foresee_82 : decode cX8_foresee 82 = .ok (.getfield 147, 3) := by decide +kernel
theorem dX8_foresee_85 : decode cX8_foresee 85 = .ok (.aload_n 0, 1) := by decide +kernel
theorem dX8_foresee_86 : decode cX8_foresee 86 = .ok (.getfield 30, 3) := by decide +kernel
theorem dX8_foresee_89 : decode cX8_foresee 89 = .ok (.getfield 147, 3) := by decide +kernel
theorem dX8_foresee_92 : decode cX8_foresee 92 = .ok (.isub, 1) := by decide +kernel
theorem dX8_foresee_93 : decode cX8_foresee 93 = .ok (.ireturn, 1) := by decide +kernel
theorem dX8_mean_0 : decode cX8_mean 0 = .ok (.aload_n 0, 1) := by decide +kernel
theorem dX8_mean_1 : decode cX8_mean 1 = .ok (.iconst 0, 1) := by decide +kernel
theorem dX8_mean_2 : decode cX8_mean 2 = .ok (.putfield 37, 3) := by decide +kernel
theorem dX8_mean_5 : decode cX8_mean 5 = .ok (.iconst 0, 1) := by decide +kernel
theorem dX8_mean_6 : decode cX8_mean 6 = .ok (.istore_n 1, 1) := by decide +kernel
theorem dX8_mean_7 : decode cX8_mean 7 = .ok (.iconst 0, 1) := by decide +kernel
theorem dX8_mean_8 : decode cX8_mean 8 = .ok (.istore_n 2, 1) := by decide +kernel
theorem dX8_mean_9 : decode cX8_mean 9 = .ok (.iload_n 2, 1) := by decide +kernel
theorem dX8_mean_10 : decode cX8_mean 10 = .ok (.aload_n 0, 1) := by decide +kernel
theorem dX8_mean_11 : decode cX8_mean 11 = .ok (.getfield 48, 3) := by decide +kernel
theorem dX8_mean_14 : decode cX8_mean 14 = .ok (.if_icmp .ge 51, 3) := by decide +kernel
theorem dX8_mean_17 : decode cX8_mean 17 = .ok (.iconst 0, 1) := by decide +kernel
theorem dX8_mean_18 : decode cX8_mean 18 = .ok (.istore_n 3, 1) := by decide +kernel
theorem dX8_mean_19 : decode cX8_mean 19 = .ok (.iload_n 3, 1) := by decide +kernel
theorem dX8_mean_20 : decode cX8_mean 20 = .ok (.aload_n 0, 1) := by decide +kernel
theorem dX8_mean_21 : decode cX8_mean 21 = .ok (.getfield 30, 3) := by decide +kernel
theorem dX8_mean_24 : decode cX8_mean 24 = .ok (.getfield 55, 3) := by decide +kernel
theorem dX8_mean_27 : decode cX8_mean 27 = .ok (.iload_n 2, 1) := by decide +kernel
theorem dX8_mean_28 : decode cX8_mean 28 = .ok (.iaload, 1) := by decide +kernel
theorem dX8_mean_29 : decode cX8_mean 29 = .ok (.if_icmp .ge 30, 3) := by decide +kernel
theorem dX8_mean_32 : decode cX8_mean 32 = .ok (.iload_n 1, 1) := by decide +kernel
theorem dX8_mean_33 : decode cX8_mean 33 = .ok (.aload_n 0, 1) := by decide +kernel
theorem dX8_mean_34 : decode cX8_mean 34 = .ok (.getfield 30, 3) := by decide +kernel
theorem dX8_mean_37 : decode cX8_mean 37 = .ok (.getfield 126, 3) := by decide +kernel
theorem dX8_mean_40 : decode cX8_mean 40 = .ok (.iconst 4, 1) := by decide +kernel
theorem dX8_mean_41 : decode cX8_mean 41 = .ok (.bipush 40, 2) := by decide +kernel
theorem dX8_mean_43 : decode cX8_mean 43 = .ok (.iload_n 2, 1) := by decide +kernel
theorem dX8_mean_44 : decode cX8_mean 44 = .ok (.imul, 1) := by decide +kernel
theorem dX8_mean_45 : decode cX8_mean 45 = .ok (.iload_n 3, 1) := by decide +kernel
theorem dX8_mean_46 : decode cX8_mean 46 = .ok (.iadd, 1) := by decide +kernel
theorem dX8_mean_47 : decode cX8_mean 47 = .ok (.imul, 1) := by decide +kernel
theorem dX8_mean_48 : decode cX8_mean 48 = .ok (.iconst 2, 1) := by decide +kernel
theorem dX8_mean_49 : decode cX8_mean 49 = .ok (.iadd, 1) := by decide +kernel
theorem dX8_mean_50 : decode cX8_mean 50 = .ok (.iaload, 1) := by decide +kernel
theorem dX8_mean_51 : decode cX8_mean 51 = .ok (.iadd, 1) := by decide +kernel
theorem dX8_mean_52 : decode cX8_mean 52 = .ok (.istore_n 1, 1) := by decide +kernel
theorem dX8_mean_53 : decode cX8_mean 53 = .ok (.iinc 3 1, 3) := by decide +kernel
theorem dX8_mean_56 : decode cX8_mean 56 = .ok (.goto (-37), 3) := by decide +kernel
theorem dX8_mean_59 : decode cX8_mean 59 = .ok (.iinc 2 1, 3) := by decide +kernel
theorem dX8_mean_62 : decode cX8_mean 62 = .ok (.goto (-53), 3) := by decide +kernel
theorem dX8_mean_65 : decode cX8_mean 65 = .ok (.aload_n 0, 1) := by decide +kernel
theorem dX8_mean_66 : decode cX8_mean 66 = .ok (.getfield 30, 3) := by decide +kernel
theorem dX8_mean_69 : decode cX8_mean 69 = .ok (.getfield 135, 3) := by decide +kernel
theorem dX8_mean_72 : decode cX8_mean 72 = .ok (.ifCond .ne 7, 3) := by decide +kernel
theorem dX8_mean_75 : decode cX8_mean 75 = .ok (.dconst 0, 1) := by decide +kernel
theorem dX8_mean_76 : decode cX8_mean 76 = .ok (.goto 14, 3) := by decide +kernel
theorem dX8_mean_79 : decode cX8_mean 79 = .ok (.iload_n 1, 1) := by decide +kernel
theorem dX8_mean_80 : decode cX8_mean 80 = .ok (.i2d, 1) := by decide +kernel
theorem dX8_mean_81 : decode cX8_mean 81 = .ok (.aload_n 0, 1) := by decide +kernel
theorem dX8_mean_82 : decode cX8_mean 82 = .ok (.getfield 30, 3) := by decide +kernel
theorem dX8_mean_85 : decode cX8_mean 85 = .ok (.getfield 135, 3) := by decide +kernel
theorem dX8_mean_88 : decode cX8_mean 88 = .ok (.i2d, 1) := by decide +kernel
theorem dX8_mean_89 : decode cX8_mean 89 = .ok (.ddiv, 1) := by decide +kernel
theorem dX8_mean_90 : decode cX8_mean 90 = .ok (.dreturn, 1) := by decide +kernel
theorem dX8_digest_0 : decode cX8_digest 0 = .ok (.aload_n 0, 1) := by decide +kernel
theorem dX8_digest_1 : decode cX8_digest 1 = .ok (.iconst 0, 1) := by decide +kernel
theorem dX8_digest_2 : decode cX8_digest 2 = .ok (.putfield 37, 3) := by decide +kernel
theorem dX8_digest_5 : decode cX8_digest 5 = .ok (.ldc2_w 160, 3) := by decide +kernel
theorem dX8_digest_8 : decode cX8_digest 8 = .ok (.lstore_n 1, 1) := by decide +kernel
theorem dX8_digest_9 : decode cX8_digest 9 = .ok (.iconst 0, 1) := by decide +kernel
theorem dX8_digest_10 : decode cX8_digest 10 = .ok (.istore_n 3, 1) := by decide +kernel
theorem dX8_digest_11 : decode cX8_digest 11 = .ok (.iload_n 3, 1) := by decide +kernel
theorem dX8_digest_12 : decode cX8_digest 12 = .ok (.bipush 8, 2) := by decide +kernel
theorem dX8_digest_14 : decode cX8_digest 14 = .ok (.if_icmp .ge 22, 3) := by decide +kernel
theorem dX8_digest_17 : decode cX8_digest 17 = .ok (.lload_n 1, 1) := by decide +kernel
theorem dX8_digest_18 : decode cX8_digest 18 = .ok (.ldc2_w 162, 3) := by decide +kernel
theorem dX8_digest_21 : decode cX8_digest 21 = .ok (.lmul, 1) := by decide +kernel
theorem dX8_digest_22 : decode cX8_digest 22 = .ok (.aload_n 0, 1) := by decide +kernel
theorem dX8_digest_23 : decode cX8_digest 23 = .ok (.iload_n 3, 1) := by decide +kernel
theorem dX8_digest_24 : decode cX8_digest 24 = .ok (.invokevirtual 150, 3) := by decide +kernel
theorem dX8_digest_27 : decode cX8_digest 27 = .ok (.i2l, 1) := by decide +kernel
theorem dX8_digest_28 : decode cX8_digest 28 = .ok (.ladd, 1) := by decide +kernel
theorem dX8_digest_29 : decode cX8_digest 29 = .ok (.lstore_n 1, 1) := by decide +kernel
theorem dX8_digest_30 : decode cX8_digest 30 = .ok (.iinc 3 1, 3) := by decide +kernel
theorem dX8_digest_33 : decode cX8_digest 33 = .ok (.goto (-22), 3) := by decide +kernel
theorem dX8_digest_36 : decode cX8_digest 36 = .ok (.iconst 0, 1) := by decide +kernel
theorem dX8_digest_37 : decode cX8_digest 37 = .ok (.istore_n 3, 1) := by decide +kernel
theorem dX8_digest_38 : decode cX8_digest 38 = .ok (.iload_n 3, 1) := by decide +kernel
theorem dX8_digest_39 : decode cX8_digest 39 = .ok (.aload_n 0, 1) := by decide +kernel
theorem dX8_digest_40 : decode cX8_digest 40 = .ok (.getfield 41, 3) := by decide +kernel
theorem dX8_digest_43 : decode cX8_digest 43 = .ok (.if_icmp .ge 40, 3) := by decide +kernel
theorem dX8_digest_46 : decode cX8_digest 46 = .ok (.iconst 0, 1) := by decide +kernel
theorem dX8_digest_47 : decode cX8_digest 47 = .ok (.istore 4, 2) := by decide +kernel
theorem dX8_digest_49 : decode cX8_digest 49 = .ok (.iload 4, 2) := by decide +kernel
theorem dX8_digest_51 : decode cX8_digest 51 = .ok (.bipush 6, 2) := by decide +kernel
theorem dX8_digest_53 : decode cX8_digest 53 = .ok (.if_icmp .ge 24, 3) := by decide +kernel
theorem dX8_digest_56 : decode cX8_digest 56 = .ok (.lload_n 1, 1) := by decide +kernel
theorem dX8_digest_57 : decode cX8_digest 57 = .ok (.ldc2_w 162, 3) := by decide +kernel
theorem dX8_digest_60 : decode cX8_digest 60 = .ok (.lmul, 1) := by decide +kernel
theorem dX8_digest_61 : decode cX8_digest 61 = .ok (.aload_n 0, 1) := by decide +kernel
theorem dX8_digest_62 : decode cX8_digest 62 = .ok (.iload_n 3, 1) := by decide +kernel
theorem dX8_digest_63 : decode cX8_digest 63 = .ok (.iload 4, 2) := by decide +kernel
theorem dX8_digest_65 : decode cX8_digest 65 = .ok (.invokevirtual 110, 3) := by decide +kernel
theorem dX8_digest_68 : decode cX8_digest 68 = .ok (.i2l, 1) := by decide +kernel
theorem dX8_digest_69 : decode cX8_digest 69 = .ok (.ladd, 1) := by decide +kernel
theorem dX8_digest_70 : decode cX8_digest 70 = .ok (.lstore_n 1, 1) := by decide +kernel
theorem dX8_digest_71 : decode cX8_digest 71 = .ok (.iinc 4 1, 3) := by decide +kernel
theorem dX8_digest_74 : decode cX8_digest 74 = .ok (.goto (-25), 3) := by decide +kernel
theorem dX8_digest_77 : decode cX8_digest 77 = .ok (.iinc 3 1, 3) := by decide +kernel
theorem dX8_digest_80 : decode cX8_digest 80 = .ok (.goto (-42), 3) := by decide +kernel
theorem dX8_digest_83 : decode cX8_digest 83 = .ok (.iconst 0, 1) := by decide +kernel
theorem dX8_digest_84 : decode cX8_digest 84 = .ok (.istore_n 3, 1) := by decide +kernel
theorem dX8_digest_85 : decode cX8_digest 85 = .ok (.iload_n 3, 1) := by decide +kernel
theorem dX8_digest_86 : decode cX8_digest 86 = .ok (.aload_n 0, 1) := by decide +kernel
theorem dX8_digest_87 : decode cX8_digest 87 = .ok (.getfield 48, 3) := by decide +kernel
theorem dX8_digest_90 : decode cX8_digest 90 = .ok (.if_icmp .ge 89, 3) := by decide +kernel
theorem dX8_digest_93 : decode cX8_digest 93 = .ok (.iconst 0, 1) := by decide +kernel
theorem dX8_digest_94 : decode cX8_digest 94 = .ok (.istore 4, 2) := by decide +kernel
theorem dX8_digest_96 : decode cX8_digest 96 = .ok (.iload 4, 2) := by decide +kernel
theorem dX8_digest_98 : decode cX8_digest 98 = .ok (.bipush 10, 2) := by decide +kernel
theorem dX8_digest_100 : decode cX8_digest 100 = .ok (.if_icmp .ge 24, 3) := by decide +kernel
theorem dX8_digest_103 : decode cX8_digest 103 = .ok (.lload_n 1, 1) := by decide +kernel
theorem dX8_digest_104 : decode cX8_digest 104 = .ok (.ldc2_w 162, 3) := by decide +kernel
theorem dX8_digest_107 : decode cX8_digest 107 = .ok (.lmul, 1) := by decide +kernel
theorem dX8_digest_108 : decode cX8_digest 108 = .ok (.aload_n 0, 1) := by decide +kernel
theorem dX8_digest_109 : decode cX8_digest 109 = .ok (.iload_n 3, 1) := by decide +kernel
theorem dX8_digest_110 : decode cX8_digest 110 = .ok (.iload 4, 2) := by decide +kernel
theorem dX8_digest_112 : decode cX8_digest 112 = .ok (.invokevirtual 117, 3) := by decide +kernel
theorem dX8_digest_115 : decode cX8_digest 115 = .ok (.i2l, 1) := by decide +kernel
theorem dX8_digest_116 : decode cX8_digest 116 = .ok (.ladd, 1) := by decide +kernel
theorem dX8_digest_117 : decode cX8_digest 117 = .ok (.lstore_n 1, 1) := by decide +kernel
theorem dX8_digest_118 : decode cX8_digest 118 = .ok (.iinc 4 1, 3) := by decide +kernel
theorem dX8_digest_121 : decode cX8_digest 121 = .ok (.goto (-25), 3) := by decide +kernel
theorem dX8_digest_124 : decode cX8_digest 124 = .ok (.iconst 0, 1) := by decide +kernel
theorem dX8_digest_125 : decode cX8_digest 125 = .ok (.istore 4, 2) := by decide +kernel
theorem dX8_digest_127 : decode cX8_digest 127 = .ok (.iload 4, 2) := by decide +kernel
theorem dX8_digest_129 : decode cX8_digest 129 = .ok (.iconst 4, 1) := by decide +kernel
theorem dX8_digest_130 : decode cX8_digest 130 = .ok (.aload_n 0, 1) := by decide +kernel
theorem dX8_digest_131 : decode cX8_digest 131 = .ok (.getfield 30, 3) := by decide +kernel
theorem dX8_digest_134 : decode cX8_digest 134 = .ok (.getfield 55, 3) := by decide +kernel
theorem dX8_digest_137 : decode cX8_digest 137 = .ok (.iload_n 3, 1) := by decide +kernel
theorem dX8_digest_138 : decode cX8_digest 138 = .ok (.iaload, 1) := by decide +kernel
theorem dX8_digest_139 : decode cX8_digest 139 = .ok (.imul, 1) := by decide +kernel
theorem dX8_digest_140 : decode cX8_digest 140 = .ok (.if_icmp .ge 33, 3) := by decide +kernel
theorem dX8_digest_143 : decode cX8_digest 143 = .ok (.lload_n 1, 1) := by decide +kernel
theorem dX8_digest_144 : decode cX8_digest 144 = .ok (.ldc2_w 162, 3) := by decide +kernel
theorem dX8_digest_147 : decode cX8_digest 147 = .ok (.lmul, 1) := by decide +kernel
theorem dX8_digest_148 : decode cX8_digest 148 = .ok (.aload_n 0, 1) := by decide +kernel
theorem dX8_digest_149 : decode cX8_digest 149 = .ok (.getfield 30, 3) := by decide +kernel
theorem dX8_digest_152 : decode cX8_digest 152 = .ok (.getfield 126, 3) := by decide +kernel
theorem dX8_digest_155 : decode cX8_digest 155 = .ok (.sipush 160, 3) := by decide +kernel
theorem dX8_digest_158 : decode cX8_digest 158 = .ok (.iload_n 3, 1) := by decide +kernel
theorem dX8_digest_159 : decode cX8_digest 159 = .ok (.imul, 1) := by decide +kernel
theorem dX8_digest_160 : decode cX8_digest 160 = .ok (.iload 4, 2) := by decide +kernel
theorem dX8_digest_162 : decode cX8_digest 162 = .ok (.iadd, 1) := by decide +kernel
theorem dX8_digest_163 : decode cX8_digest 163 = .ok (.iaload, 1) := by decide +kernel
theorem dX8_digest_164 : decode cX8_digest 164 = .ok (.i2l, 1) := by decide +kernel
theorem dX8_digest_165 : decode cX8_digest 165 = .ok (.ladd, 1) := by decide +kernel
theorem dX8_digest_166 : decode cX8_digest 166 = .ok (.lstore_n 1, 1) := by decide +kernel
theorem dX8_digest_167 : decode cX8_digest 167 = .ok (.iinc 4 1, 3) := by decide +kernel
theorem dX8_digest_170 : decode cX8_digest 170 = .ok (.goto (-43), 3) := by decide +kernel
theorem dX8_digest_173 : decode cX8_digest 173 = .ok (.iinc 3 1, 3) := by decide +kernel
theorem dX8_digest_176 : decode cX8_digest 176 = .ok (.goto (-91), 3) := by decide +kernel
theorem dX8_digest_179 : decode cX8_digest 179 = .ok (.iconst 0, 1) := by decide +kernel
theorem dX8_digest_180 : decode cX8_digest 180 = .ok (.istore_n 3, 1) := by decide +kernel
theorem dX8_digest_181 : decode cX8_digest 181 = .ok (.iload_n 3, 1) := by decide +kernel
theorem dX8_digest_182 : decode cX8_digest 182 = .ok (.aload_n 0, 1) := by decide +kernel
theorem dX8_digest_183 : decode cX8_digest 183 = .ok (.getfield 30, 3) := by decide +kernel
theorem dX8_digest_186 : decode cX8_digest 186 = .ok (.getfield 129, 3) := by decide +kernel
theorem dX8_digest_189 : decode cX8_digest 189 = .ok (.if_icmp .ge 74, 3) := by decide +kernel
theorem dX8_digest_192 : decode cX8_digest 192 = .ok (.lload_n 1, 1) := by decide +kernel
theorem dX8_digest_193 : decode cX8_digest 193 = .ok (.ldc2_w 162, 3) := by decide +kernel
theorem dX8_digest_196 : decode cX8_digest 196 = .ok (.lmul, 1) := by decide +kernel
theorem dX8_digest_197 : decode cX8_digest 197 = .ok (.aload_n 0, 1) := by decide +kernel
theorem dX8_digest_198 : decode cX8_digest 198 = .ok (.getfield 30, 3) := by decide +kernel
theorem dX8_digest_201 : decode cX8_digest 201 = .ok (.getfield 132, 3) := by decide +kernel
theorem dX8_digest_204 : decode cX8_digest 204 = .ok (.iconst 2, 1) := by decide +kernel
theorem dX8_digest_205 : decode cX8_digest 205 = .ok (.iload_n 3, 1) := by decide +kernel
theorem dX8_digest_206 : decode cX8_digest 206 = .ok (.imul, 1) := by decide +kernel
theorem dX8_digest_207 : decode cX8_digest 207 = .ok (.iaload, 1) := by decide +kernel
theorem dX8_digest_208 : decode cX8_digest 208 = .ok (.bipush 40, 2) := by decide +kernel
theorem dX8_digest_210 : decode cX8_digest 210 = .ok (.idiv, 1) := by decide +kernel
theorem dX8_digest_211 : decode cX8_digest 211 = .ok (.i2l, 1) := by decide +kernel
theorem dX8_digest_212 : decode cX8_digest 212 = .ok (.ladd, 1) := by decide +kernel
theorem dX8_digest_213 : decode cX8_digest 213 = .ok (.lstore_n 1, 1) := by decide +kernel
theorem dX8_digest_214 : decode cX8_digest 214 = .ok (.lload_n 1, 1) := by decide +kernel
theorem dX8_digest_215 : decode cX8_digest 215 = .ok (.ldc2_w 162, 3) := by decide +kernel
theorem dX8_digest_218 : decode cX8_digest 218 = .ok (.lmul, 1) := by decide +kernel
theorem dX8_digest_219 : decode cX8_digest 219 = .ok (.aload_n 0, 1) := by decide +kernel
theorem dX8_digest_220 : decode cX8_digest 220 = .ok (.getfield 30, 3) := by decide +kernel
theorem dX8_digest_223 : decode cX8_digest 223 = .ok (.getfield 132, 3) := by decide +kernel
theorem dX8_digest_226 : decode cX8_digest 226 = .ok (.iconst 2, 1) := by decide +kernel
theorem dX8_digest_227 : decode cX8_digest 227 = .ok (.iload_n 3, 1) := by decide +kernel
theorem dX8_digest_228 : decode cX8_digest 228 = .ok (.imul, 1) := by decide +kernel
theorem dX8_digest_229 : decode cX8_digest 229 = .ok (.iaload, 1) := by decide +kernel
theorem dX8_digest_230 : decode cX8_digest 230 = .ok (.bipush 40, 2) := by decide +kernel
theorem dX8_digest_232 : decode cX8_digest 232 = .ok (.irem, 1) := by decide +kernel
theorem dX8_digest_233 : decode cX8_digest 233 = .ok (.i2l, 1) := by decide +kernel
theorem dX8_digest_234 : decode cX8_digest 234 = .ok (.ladd, 1) := by decide +kernel
theorem dX8_digest_235 : decode cX8_digest 235 = .ok (.lstore_n 1, 1) := by decide +kernel
theorem dX8_digest_236 : decode cX8_digest 236 = .ok (.lload_n 1, 1) := by decide +kernel
theorem dX8_digest_237 : decode cX8_digest 237 = .ok (.ldc2_w 162, 3) := by decide +kernel
theorem dX8_digest_240 : decode cX8_digest 240 = .ok (.lmul, 1) := by decide +kernel
theorem dX8_digest_241 : decode cX8_digest 241 = .ok (.aload_n 0, 1) := by decide +kernel
theorem dX8_digest_242 : decode cX8_digest 242 = .ok (.getfield 30, 3) := by decide +kernel
theorem dX8_digest_245 : decode cX8_digest 245 = .ok (.getfield 132, 3) := by decide +kernel
theorem dX8_digest_248 : decode cX8_digest 248 = .ok (.iconst 2, 1) := by decide +kernel
theorem dX8_digest_249 : decode cX8_digest 249 = .ok (.iload_n 3, 1) := by decide +kernel
theorem dX8_digest_250 : decode cX8_digest 250 = .ok (.imul, 1) := by decide +kernel
theorem dX8_digest_251 : decode cX8_digest 251 = .ok (.iconst 1, 1) := by decide +kernel
theorem dX8_digest_252 : decode cX8_digest 252 = .ok (.iadd, 1) := by decide +kernel
theorem dX8_digest_253 : decode cX8_digest 253 = .ok (.iaload, 1) := by decide +kernel
theorem dX8_digest_254 : decode cX8_digest 254 = .ok (.i2l, 1) := by decide +kernel
theorem dX8_digest_255 : decode cX8_digest 255 = .ok (.ladd, 1) := by decide +kernel
theorem dX8_digest_256 : decode cX8_digest 256 = .ok (.lstore_n 1, 1) := by decide +kernel
theorem dX8_digest_257 : decode cX8_digest 257 = .ok (.iinc 3 1, 3) := by decide +kernel
theorem dX8_digest_260 : decode cX8_digest 260 = .ok (.goto (-79), 3) := by decide +kernel
theorem dX8_digest_263 : decode cX8_digest 263 = .ok (.lload_n 1, 1) := by decide +kernel
theorem dX8_digest_264 : decode cX8_digest 264 = .ok (.lreturn, 1) := by decide +kernel
theorem dJ6_compare_7cf53_0 : decode cJ6_compare_7cf53 0 = .ok (.iload_n 0, 1) := by decide +kernel
theorem dJ6_compare_7cf53_1 : decode cJ6_compare_7cf53 1 = .ok (.iload_n 1, 1) := by decide +kernel
theorem dJ6_compare_7cf53_2 : decode cJ6_compare_7cf53 2 = .ok (.if_icmp .ge 7, 3) := by decide +kernel
theorem dJ6_compare_7cf53_5 : decode cJ6_compare_7cf53 5 = .ok (.iconst (-1), 1) := by decide +kernel
theorem dJ6_compare_7cf53_6 : decode cJ6_compare_7cf53 6 = .ok (.goto 13, 3) := by decide +kernel
theorem dJ6_compare_7cf53_9 : decode cJ6_compare_7cf53 9 = .ok (.iload_n 0, 1) := by decide +kernel
theorem dJ6_compare_7cf53_10 : decode cJ6_compare_7cf53 10 = .ok (.iload_n 1, 1) := by decide +kernel
theorem dJ6_compare_7cf53_11 : decode cJ6_compare_7cf53 11 = .ok (.if_icmp .ne 7, 3) := by decide +kernel
theorem dJ6_compare_7cf53_14 : decode cJ6_compare_7cf53 14 = .ok (.iconst 0, 1) := by decide +kernel
theorem dJ6_compare_7cf53_15 : decode cJ6_compare_7cf53 15 = .ok (.goto 4, 3) := by decide +kernel
theorem dJ6_compare_7cf53_18 : decode cJ6_compare_7cf53 18 = .ok (.iconst 1, 1) := by decide +kernel
theorem dJ6_compare_7cf53_19 : decode cJ6_compare_7cf53 19 = .ok (.ireturn, 1) := by decide +kernel
theorem dJ6_bitCount_0f7a4_0 : decode cJ6_bitCount_0f7a4 0 = .ok (.iload_n 0, 1) := by decide +kernel
theorem dJ6_bitCount_0f7a4_1 : decode cJ6_bitCount_0f7a4 1 = .ok (.iload_n 0, 1) := by decide +kernel
theorem dJ6_bitCount_0f7a4_2 : decode cJ6_bitCount_0f7a4 2 = .ok (.iconst 1, 1) := by decide +kernel
theorem dJ6_bitCount_0f7a4_3 : decode cJ6_bitCount_0f7a4 3 = .ok (.iushr, 1) := by decide +kernel
theorem dJ6_bitCount_0f7a4_4 : decode cJ6_bitCount_0f7a4 4 = .ok (.ldc_w 265, 3) := by decide +kernel
theorem dJ6_bitCount_0f7a4_7 : decode cJ6_bitCount_0f7a4 7 = .ok (.iand, 1) := by decide +kernel
theorem dJ6_bitCount_0f7a4_8 : decode cJ6_bitCount_0f7a4 8 = .ok (.isub, 1) := by decide +kernel
theorem dJ6_bitCount_0f7a4_9 : decode cJ6_bitCount_0f7a4 9 = .ok (.istore_n 0, 1) := by decide +kernel
theorem dJ6_bitCount_0f7a4_10 : decode cJ6_bitCount_0f7a4 10 = .ok (.iload_n 0, 1) := by decide +kernel
theorem dJ6_bitCount_0f7a4_11 : decode cJ6_bitCount_0f7a4 11 = .ok (.ldc_w 266, 3) := by decide +kernel
theorem dJ6_bitCount_0f7a4_14 : decode cJ6_bitCount_0f7a4 14 = .ok (.iand, 1) := by decide +kernel
theorem dJ6_bitCount_0f7a4_15 : decode cJ6_bitCount_0f7a4 15 = .ok (.iload_n 0, 1) := by decide +kernel
theorem dJ6_bitCount_0f7a4_16 : decode cJ6_bitCount_0f7a4 16 = .ok (.iconst 2, 1) := by decide +kernel
theorem dJ6_bitCount_0f7a4_17 : decode cJ6_bitCount_0f7a4 17 = .ok (.iushr, 1) := by decide +kernel
theorem dJ6_bitCount_0f7a4_18 : decode cJ6_bitCount_0f7a4 18 = .ok (.ldc_w 266, 3) := by decide +kernel
theorem dJ6_bitCount_0f7a4_21 : decode cJ6_bitCount_0f7a4 21 = .ok (.iand, 1) := by decide +kernel
theorem dJ6_bitCount_0f7a4_22 : decode cJ6_bitCount_0f7a4 22 = .ok (.iadd, 1) := by decide +kernel
theorem dJ6_bitCount_0f7a4_23 : decode cJ6_bitCount_0f7a4 23 = .ok (.istore_n 0, 1) := by decide +kernel
theorem dJ6_bitCount_0f7a4_24 : decode cJ6_bitCount_0f7a4 24 = .ok (.iload_n 0, 1) := by decide +kernel
theorem dJ6_bitCount_0f7a4_25 : decode cJ6_bitCount_0f7a4 25 = .ok (.iload_n 0, 1) := by decide +kernel
theorem dJ6_bitCount_0f7a4_26 : decode cJ6_bitCount_0f7a4 26 = .ok (.iconst 4, 1) := by decide +kernel
theorem dJ6_bitCount_0f7a4_27 : decode cJ6_bitCount_0f7a4 27 = .ok (.iushr, 1) := by decide +kernel
theorem dJ6_bitCount_0f7a4_28 : decode cJ6_bitCount_0f7a4 28 = .ok (.iadd, 1) := by decide +kernel
theorem dJ6_bitCount_0f7a4_29 : decode cJ6_bitCount_0f7a4 29 = .ok (.ldc_w 267, 3) := by decide +kernel
theorem dJ6_bitCount_0f7a4_32 : decode cJ6_bitCount_0f7a4 32 = .ok (.iand, 1) := by decide +kernel
theorem dJ6_bitCount_0f7a4_33 : decode cJ6_bitCount_0f7a4 33 = .ok (.istore_n 0, 1) := by decide +kernel
theorem dJ6_bitCount_0f7a4_34 : decode cJ6_bitCount_0f7a4 34 = .ok (.iload_n 0, 1) := by decide +kernel
theorem dJ6_bitCount_0f7a4_35 : decode cJ6_bitCount_0f7a4 35 = .ok (.iload_n 0, 1) := by decide +kernel
theorem dJ6_bitCount_0f7a4_36 : decode cJ6_bitCount_0f7a4 36 = .ok (.bipush 8, 2) := by decide +kernel
theorem dJ6_bitCount_0f7a4_38 : decode cJ6_bitCount_0f7a4 38 = .ok (.iushr, 1) := by decide +kernel
theorem dJ6_bitCount_0f7a4_39 : decode cJ6_bitCount_0f7a4 39 = .ok (.iadd, 1) := by decide +kernel
theorem dJ6_bitCount_0f7a4_40 : decode cJ6_bitCount_0f7a4 40 = .ok (.istore_n 0, 1) := by decide +kernel
theorem dJ6_bitCount_0f7a4_41 : decode cJ6_bitCount_0f7a4 41 = .ok (.iload_n 0, 1) := by decide +kernel
theorem dJ6_bitCount_0f7a4_42 : decode cJ6_bitCount_0f7a4 42 = .ok (.iload_n 0, 1) := by decide +kernel
theorem dJ6_bitCount_0f7a4_43 : decode cJ6_bitCount_0f7a4 43 = .ok (.bipush 16, 2) := by decide +kernel
theorem dJ6_bitCount_0f7a4_45 : decode cJ6_bitCount_0f7a4 45 = .ok (.iushr, 1) := by decide +kernel
theorem dJ6_bitCount_0f7a4_46 : decode cJ6_bitCount_0f7a4 46 = .ok (.iadd, 1) := by decide +kernel
theorem dJ6_bitCount_0f7a4_47 : decode cJ6_bitCount_0f7a4 47 = .ok (.istore_n 0, 1) := by decide +kernel
theorem dJ6_bitCount_0f7a4_48 : decode cJ6_bitCount_0f7a4 48 = .ok (.iload_n 0, 1) := by decide +kernel
theorem dJ6_bitCount_0f7a4_49 : decode cJ6_bitCount_0f7a4 49 = .ok (.bipush 63, 2) := by decide +kernel
theorem dJ6_bitCount_0f7a4_51 : decode cJ6_bitCount_0f7a4 51 = .ok (.iand, 1) := by decide +kernel
theorem dJ6_bitCount_0f7a4_52 : decode cJ6_bitCount_0f7a4 52 = .ok (.ireturn, 1) := by decide +kernel
theorem dJ9_abs_0f7a4_0 : decode cJ9_abs_0f7a4 0 = .ok (.iload_n 0, 1) := by decide +kernel
theorem dJ9_abs_0f7a4_1 : decode cJ9_abs_0f7a4 1 = .ok (.ifCond .ge 8, 3) := by decide +kernel
theorem dJ9_abs_0f7a4_4 : decode cJ9_abs_0f7a4 4 = .ok (.iload_n 0, 1) := by decide +kernel
theorem dJ9_abs_0f7a4_5 : decode cJ9_abs_0f7a4 5 = .ok (.ineg, 1) := by decide +kernel
theorem dJ9_abs_0f7a4_6 : decode cJ9_abs_0f7a4 6 = .ok (.goto 4, 3) := by decide +kernel
theorem dJ9_abs_0f7a4_9 : decode cJ9_abs_0f7a4 9 = .ok (.iload_n 0, 1) := by decide +kernel
theorem dJ9_abs_0f7a4_10 : decode cJ9_abs_0f7a4 10 = .ok (.ireturn, 1) := by decide +kernel
theorem dJ9_max_7cf53_0 : decode cJ9_max_7cf53 0 = .ok (.iload_n 0, 1) := by decide +kernel
theorem dJ9_max_7cf53_1 : decode cJ9_max_7cf53 1 = .ok (.iload_n 1, 1) := by decide +kernel
theorem dJ9_max_7cf53_2 : decode cJ9_max_7cf53 2 = .ok (.if_icmp .lt 7, 3) := by decide +kernel
theorem dJ9_max_7cf53_5 : decode cJ9_max_7cf53 5 = .ok (.iload_n 0, 1) := by decide +kernel
theorem dJ9_max_7cf53_6 : decode cJ9_max_7cf53 6 = .ok (.goto 4, 3) := by decide +kernel
theorem dJ9_max_7cf53_9 : decode cJ9_max_7cf53 9 = .ok (.iload_n 1, 1) := by decide +kernel
theorem dJ9_max_7cf53_10 : decode cJ9_max_7cf53 10 = .ok (.ireturn, 1) := by decide +kernel
theorem dL_addStation_0 : decode cL_addStation 0 = .ok (.aload 7, 2) := by decide +kernel
theorem dL_addStation_2 : decode cL_addStation 2 = .ok (.iconst 0, 1) := by decide +kernel
theorem dL_addStation_3 : decode cL_addStation 3 = .ok (.aload_n 0, 1) := by decide +kernel
theorem dL_addStation_4 : decode cL_addStation 4 = .ok (.iload_n 1, 1) := by decide +kernel
theorem dL_addStation_5 : decode cL_addStation 5 = .ok (.iload_n 2, 1) := by decide +kernel
theorem dL_addStation_6 : decode cL_addStation 6 = .ok (.iload_n 3, 1) := by decide +kernel
theorem dL_addStation_7 : decode cL_addStation 7 = .ok (.iload 4, 2) := by decide +kernel
theorem dL_addStation_9 : decode cL_addStation 9 = .ok (.iload 5, 2) := by decide +kernel
theorem dL_addStation_11 : decode cL_addStation 11 = .ok (.iload 6, 2) := by decide +kernel
theorem dL_addStation_13 : decode cL_addStation 13 = .ok (.invokevirtual 7, 3) := by decide +kernel
theorem dL_addStation_16 : decode cL_addStation 16 = .ok (.i2l, 1) := by decide +kernel
theorem dL_addStation_17 : decode cL_addStation 17 = .ok (.lastore, 1) := by decide +kernel
theorem dL_addStation_18 : decode cL_addStation 18 = .ok (.goto 11, 3) := by decide +kernel
theorem dL_addStation_21 : decode cL_addStation 21 = .ok (.astore 8, 2) := by decide +kernel
theorem dL_addStation_23 : decode cL_addStation 23 = .ok (.iconst 1, 1) := by decide +kernel
theorem dL_addStation_24 : decode cL_addStation 24 = .ok (.ireturn, 1) := by decide +kernel
theorem dL_addStation_25 : decode cL_addStation 25 = .ok (.astore 8, 2) := by decide +kernel
theorem dL_addStation_27 : decode cL_addStation 27 = .ok (.iconst 2, 1) := by decide +kernel
theorem dL_addStation_28 : decode cL_addStation 28 = .ok (.ireturn, 1) := by decide +kernel
theorem dL_addStation_29 : decode cL_addStation 29 = .ok (.iconst 0, 1) := by decide +kernel
theorem dL_addStation_30 : decode cL_addStation 30 = .ok (.ireturn, 1) := by decide +kernel
theorem dL_join_0 : decode cL_join 0 = .ok (.aload_n 3, 1) := by decide +kernel
theorem dL_join_1 : decode cL_join 1 = .ok (.iconst 0, 1) := by decide +kernel
theorem dL_join_2 : decode cL_join 2 = .ok (.aload_n 0, 1) := by decide +kernel
theorem dL_join_3 : decode cL_join 3 = .ok (.iload_n 1, 1) := by decide +kernel
theorem dL_join_4 : decode cL_join 4 = .ok (.iload_n 2, 1) := by decide +kernel
theorem dL_join_5 : decode cL_join 5 = .ok (.invokevirtual 17, 3) := by decide +kernel
theorem dL_join_8 : decode cL_join 8 = .ok (.i2l, 1) := by decide +kernel
theorem dL_join_9 : decode cL_join 9 = .ok (.lastore, 1) := by decide +kernel
theorem dL_join_10 : decode cL_join 10 = .ok (.goto 11, 3) := by decide +kernel
theorem dL_join_13 : decode cL_join 13 = .ok (.astore 4, 2) := by decide +kernel
theorem dL_join_15 : decode cL_join 15 = .ok (.iconst 1, 1) := by decide +kernel
theorem dL_join_16 : decode cL_join 16 = .ok (.ireturn, 1) := by decide +kernel
theorem dL_join_17 : decode cL_join 17 = .ok (.astore 4, 2) := by decide +kernel
theorem dL_join_19 : decode cL_join 19 = .ok (.iconst 2, 1) := by decide +kernel
theorem dL_join_20 : decode cL_join 20 = .ok (.ireturn, 1) := by decide +kernel
theorem dL_join_21 : decode cL_join 21 = .ok (.iconst 0, 1) := by decide +kernel
theorem dL_join_22 : decode cL_join 22 = .ok (.ireturn, 1) := by decide +kernel
theorem dL_turn_0 : decode cL_turn 0 = .ok (.aload_n 3, 1) := by decide +kernel
theorem dL_turn_1 : decode cL_turn 1 = .ok (.iconst 0, 1) := by decide +kernel
theorem dL_turn_2 : decode cL_turn 2 = .ok (.aload_n 0, 1) := by decide +kernel
theorem dL_turn_3 : decode cL_turn 3 = .ok (.iload_n 1, 1) := by decide +kernel
theorem dL_turn_4 : decode cL_turn 4 = .ok (.iload_n 2, 1) := by decide +kernel
theorem dL_turn_5 : decode cL_turn 5 = .ok (.invokevirtual 21, 3) := by decide +kernel
theorem dL_turn_8 : decode cL_turn 8 = .ok (.i2l, 1) := by decide +kernel
theorem dL_turn_9 : decode cL_turn 9 = .ok (.lastore, 1) := by decide +kernel
theorem dL_turn_10 : decode cL_turn 10 = .ok (.goto 11, 3) := by decide +kernel
theorem dL_turn_13 : decode cL_turn 13 = .ok (.astore 4, 2) := by decide +kernel
theorem dL_turn_15 : decode cL_turn 15 = .ok (.iconst 1, 1) := by decide +kernel
theorem dL_turn_16 : decode cL_turn 16 = .ok (.ireturn, 1) := by decide +kernel
theorem dL_turn_17 : decode cL_turn 17 = .ok (.astore 4, 2) := by decide +kernel
theorem dL_turn_19 : decode cL_turn 19 = .ok (.iconst 2, 1) := by decide +kernel
theorem dL_turn_20 : decode cL_turn 20 = .ok (.ireturn, 1) := by decide +kernel
theorem dL_turn_21 : decode cL_turn 21 = .ok (.iconst 0, 1) := by decide +kernel
theorem dL_turn_22 : decode cL_turn 22 = .ok (.ireturn, 1) := by decide +kernel
theorem dL_wind_0 : decode cL_wind 0 = .ok (.aload_n 3, 1) := by decide +kernel
theorem dL_wind_1 : decode cL_wind 1 = .ok (.iconst 0, 1) := by decide +kernel
theorem dL_wind_2 : decode cL_wind 2 = .ok (.aload_n 0, 1) := by decide +kernel
theorem dL_wind_3 : decode cL_wind 3 = .ok (.iload_n 1, 1) := by decide +kernel
theorem dL_wind_4 : decode cL_wind 4 = .ok (.iload_n 2, 1) := by decide +kernel
theorem dL_wind_5 : decode cL_wind 5 = .ok (.invokevirtual 26, 3) := by decide +kernel
theorem dL_wind_8 : decode cL_wind 8 = .ok (.i2l, 1) := by decide +kernel
theorem dL_wind_9 : decode cL_wind 9 = .ok (.lastore, 1) := by decide +kernel
theorem dL_wind_10 : decode cL_wind 10 = .ok (.goto 11, 3) := by decide +kernel
theorem dL_wind_13 : decode cL_wind 13 = .ok (.astore 4, 2) := by decide +kernel
theorem dL_wind_15 : decode cL_wind 15 = .ok (.iconst 1, 1) := by decide +kernel
theorem dL_wind_16 : decode cL_wind 16 = .ok (.ireturn, 1) := by decide +kernel
theorem dL_wind_17 : decode cL_wind 17 = .ok (.astore 4, 2) := by decide +kernel
theorem dL_wind_19 : decode cL_wind 19 = .ok (.iconst 2, 1) := by decide +kernel
theorem dL_wind_20 : decode cL_wind 20 = .ok (.ireturn, 1) := by decide +kernel
theorem dL_wind_21 : decode cL_wind 21 = .ok (.iconst 0, 1) := by decide +kernel
theorem dL_wind_22 : decode cL_wind 22 = .ok (.ireturn, 1) := by decide +kernel
theorem dL_listen_0 : decode cL_listen 0 = .ok (.aload_n 3, 1) := by decide +kernel
theorem dL_listen_1 : decode cL_listen 1 = .ok (.iconst 0, 1) := by decide +kernel
theorem dL_listen_2 : decode cL_listen 2 = .ok (.aload_n 0, 1) := by decide +kernel
theorem dL_listen_3 : decode cL_listen 3 = .ok (.iload_n 1, 1) := by decide +kernel
theorem dL_listen_4 : decode cL_listen 4 = .ok (.iload_n 2, 1) := by decide +kernel
theorem dL_listen_5 : decode cL_listen 5 = .ok (.invokevirtual 29, 3) := by decide +kernel
theorem dL_listen_8 : decode cL_listen 8 = .ok (.ifCond .eq 7, 3) := by decide +kernel
theorem dL_listen_11 : decode cL_listen 11 = .ok (.lconst 1, 1) := by decide +kernel
theorem dL_listen_12 : decode cL_listen 12 = .ok (.goto 4, 3) := by decide +kernel
theorem dL_listen_15 : decode cL_listen 15 = .ok (.lconst 0, 1) := by decide +kernel
theorem dL_listen_16 : decode cL_listen 16 = .ok (.lastore, 1) := by decide +kernel
theorem dL_listen_17 : decode cL_listen 17 = .ok (.goto 7, 3) := by decide +kernel
theorem dL_listen_20 : decode cL_listen 20 = .ok (.astore 4, 2) := by decide +kernel
theorem dL_listen_22 : decode cL_listen 22 = .ok (.iconst 1, 1) := by decide +kernel
theorem dL_listen_23 : decode cL_listen 23 = .ok (.ireturn, 1) := by decide +kernel
theorem dL_listen_24 : decode cL_listen 24 = .ok (.iconst 0, 1) := by decide +kernel
theorem dL_listen_25 : decode cL_listen 25 = .ok (.ireturn, 1) := by decide +kernel
theorem dL_renew_0 : decode cL_renew 0 = .ok (.aload_n 2, 1) := by decide +kernel
theorem dL_renew_1 : decode cL_renew 1 = .ok (.iconst 0, 1) := by decide +kernel
theorem dL_renew_2 : decode cL_renew 2 = .ok (.aload_n 0, 1) := by decide +kernel
theorem dL_renew_3 : decode cL_renew 3 = .ok (.iload_n 1, 1) := by decide +kernel
theorem dL_renew_4 : decode cL_renew 4 = .ok (.invokevirtual 33, 3) := by decide +kernel
theorem dL_renew_7 : decode cL_renew 7 = .ok (.i2l, 1) := by decide +kernel
theorem dL_renew_8 : decode cL_renew 8 = .ok (.lastore, 1) := by decide +kernel
theorem dL_renew_9 : decode cL_renew 9 = .ok (.goto 6, 3) := by decide +kernel
theorem dL_renew_12 : decode cL_renew 12 = .ok (.astore_n 3, 1) := by decide +kernel
theorem dL_renew_13 : decode cL_renew 13 = .ok (.iconst 1, 1) := by decide +kernel
theorem dL_renew_14 : decode cL_renew 14 = .ok (.ireturn, 1) := by decide +kernel
theorem dL_renew_15 : decode cL_renew 15 = .ok (.iconst 0, 1) := by decide +kernel
theorem dL_renew_16 : decode cL_renew 16 = .ok (.ireturn, 1) := by decide +kernel
theorem dL_station_0 : decode cL_station 0 = .ok (.aload_n 3, 1) := by decide +kernel
theorem dL_station_1 : decode cL_station 1 = .ok (.iconst 0, 1) := by decide +kernel
theorem dL_station_2 : decode cL_station 2 = .ok (.aload_n 0, 1) := by decide +kernel
theorem dL_station_3 : decode cL_station 3 = .ok (.iload_n 1, 1) := by decide +kernel
theorem dL_station_4 : decode cL_station 4 = .ok (.iload_n 2, 1) := by decide +kernel
theorem dL_station_5 : decode cL_station 5 = .ok (.invokevirtual 37, 3) := by decide +kernel
theorem dL_station_8 : decode cL_station 8 = .ok (.i2l, 1) := by decide +kernel
theorem dL_station_9 : decode cL_station 9 = .ok (.lastore, 1) := by decide +kernel
theorem dL_station_10 : decode cL_station 10 = .ok (.goto 7, 3) := by decide +kernel
theorem dL_station_13 : decode cL_station 13 = .ok (.astore 4, 2) := by decide +kernel
theorem dL_station_15 : decode cL_station 15 = .ok (.iconst 1, 1) := by decide +kernel
theorem dL_station_16 : decode cL_station 16 = .ok (.ireturn, 1) := by decide +kernel
theorem dL_station_17 : decode cL_station 17 = .ok (.iconst 0, 1) := by decide +kernel
theorem dL_station_18 : decode cL_station 18 = .ok (.ireturn, 1) := by decide +kernel
theorem dL_member_0 : decode cL_member 0 = .ok (.aload_n 3, 1) := by decide +kernel
theorem dL_member_1 : decode cL_member 1 = .ok (.iconst 0, 1) := by decide +kernel
theorem dL_member_2 : decode cL_member 2 = .ok (.aload_n 0, 1) := by decide +kernel
theorem dL_member_3 : decode cL_member 3 = .ok (.iload_n 1, 1) := by decide +kernel
theorem dL_member_4 : decode cL_member 4 = .ok (.iload_n 2, 1) := by decide +kernel
theorem dL_member_5 : decode cL_member 5 = .ok (.invokevirtual 40, 3) := by decide +kernel
theorem dL_member_8 : decode cL_member 8 = .ok (.i2l, 1) := by decide +kernel
theorem dL_member_9 : decode cL_member 9 = .ok (.lastore, 1) := by decide +kernel
theorem dL_member_10 : decode cL_member 10 = .ok (.goto 7, 3) := by decide +kernel
theorem dL_member_13 : decode cL_member 13 = .ok (.astore 4, 2) := by decide +kernel
theorem dL_member_15 : decode cL_member 15 = .ok (.iconst 1, 1) := by decide +kernel
theorem dL_member_16 : decode cL_member 16 = .ok (.ireturn, 1) := by decide +kernel
theorem dL_member_17 : decode cL_member 17 = .ok (.iconst 0, 1) := by decide +kernel
theorem dL_member_18 : decode cL_member 18 = .ok (.ireturn, 1) := by decide +kernel
theorem dL_strength_0 : decode cL_strength 0 = .ok (.aload_n 3, 1) := by decide +kernel
theorem dL_strength_1 : decode cL_strength 1 = .ok (.iconst 0, 1) := by decide +kernel
theorem dL_strength_2 : decode cL_strength 2 = .ok (.aload_n 0, 1) := by decide +kernel
theorem dL_strength_3 : decode cL_strength 3 = .ok (.iload_n 1, 1) := by decide +kernel
theorem dL_strength_4 : decode cL_strength 4 = .ok (.iload_n 2, 1) := by decide +kernel
theorem dL_strength_5 : decode cL_strength 5 = .ok (.invokevirtual 43, 3) := by decide +kernel
theorem dL_strength_8 : decode cL_strength 8 = .ok (.i2l, 1) := by decide +kernel
theorem dL_strength_9 : decode cL_strength 9 = .ok (.lastore, 1) := by decide +kernel
theorem dL_strength_10 : decode cL_strength 10 = .ok (.goto 7, 3) := by decide +kernel
theorem dL_strength_13 : decode cL_strength 13 = .ok (.astore 4, 2) := by decide +kernel
theorem dL_strength_15 : decode cL_strength 15 = .ok (.iconst 1, 1) := by decide +kernel
theorem dL_strength_16 : decode cL_strength 16 = .ok (.ireturn, 1) := by decide +kernel
theorem dL_strength_17 : decode cL_strength 17 = .ok (.iconst 0, 1) := by decide +kernel
theorem dL_strength_18 : decode cL_strength 18 = .ok (.ireturn, 1) := by decide +kernel
theorem dL_hears_0 : decode cL_hears 0 = .ok (.aload_n 2, 1) := by decide +kernel
theorem dL_hears_1 : decode cL_hears 1 = .ok (.iconst 0, 1) := by decide +kernel
theorem dL_hears_2 : decode cL_hears 2 = .ok (.aload_n 0, 1) := by decide +kernel
theorem dL_hears_3 : decode cL_hears 3 = .ok (.iload_n 1, 1) := by decide +kernel
theorem dL_hears_4 : decode cL_hears 4 = .ok (.invokevirtual 46, 3) := by decide +kernel
theorem dL_hears_7 : decode cL_hears 7 = .ok (.i2l, 1) := by decide +kernel
theorem dL_hears_8 : decode cL_hears 8 = .ok (.lastore, 1) := by decide +kernel
theorem dL_hears_9 : decode cL_hears 9 = .ok (.goto 6, 3) := by decide +kernel
theorem dL_hears_12 : decode cL_hears 12 = .ok (.astore_n 3, 1) := by decide +kernel
theorem dL_hears_13 : decode cL_hears 13 = .ok (.iconst 1, 1) := by decide +kernel
theorem dL_hears_14 : decode cL_hears 14 = .ok (.ireturn, 1) := by decide +kernel
theorem dL_hears_15 : decode cL_hears 15 = .ok (.iconst 0, 1) := by decide +kernel
theorem dL_hears_16 : decode cL_hears 16 = .ok (.ireturn, 1) := by decide +kernel
theorem dL_log_0 : decode cL_log 0 = .ok (.aload 4, 2) := by decide +kernel
theorem dL_log_2 : decode cL_log 2 = .ok (.iconst 0, 1) := by decide +kernel
theorem dL_log_3 : decode cL_log 3 = .ok (.aload_n 0, 1) := by decide +kernel
theorem dL_log_4 : decode cL_log 4 = .ok (.iload_n 1, 1) := by decide +kernel
theorem dL_log_5 : decode cL_log 5 = .ok (.iload_n 2, 1) := by decide +kernel
theorem dL_log_6 : decode cL_log 6 = .ok (.iload_n 3, 1) := by decide +kernel
theorem dL_log_7 : decode cL_log 7 = .ok (.invokevirtual 49, 3) := by decide +kernel
theorem dL_log_10 : decode cL_log 10 = .ok (.i2l, 1) := by decide +kernel
theorem dL_log_11 : decode cL_log 11 = .ok (.lastore, 1) := by decide +kernel
theorem dL_log_12 : decode cL_log 12 = .ok (.goto 7, 3) := by decide +kernel
theorem dL_log_15 : decode cL_log 15 = .ok (.astore 5, 2) := by decide +kernel
theorem dL_log_17 : decode cL_log 17 = .ok (.iconst 1, 1) := by decide +kernel
theorem dL_log_18 : decode cL_log 18 = .ok (.ireturn, 1) := by decide +kernel
theorem dL_log_19 : decode cL_log 19 = .ok (.iconst 0, 1) := by decide +kernel
theorem dL_log_20 : decode cL_log 20 = .ok (.ireturn, 1) := by decide +kernel
theorem dL_write_0 : decode cL_write 0 = .ok (.aload_n 3, 1) := by decide +kernel
theorem dL_write_1 : decode cL_write 1 = .ok (.iconst 0, 1) := by decide +kernel
theorem dL_write_2 : decode cL_write 2 = .ok (.aload_n 0, 1) := by decide +kernel
theorem dL_write_3 : decode cL_write 3 = .ok (.iload_n 1, 1) := by decide +kernel
theorem dL_write_4 : decode cL_write 4 = .ok (.iload_n 2, 1) := by decide +kernel
theorem dL_write_5 : decode cL_write 5 = .ok (.invokevirtual 53, 3) := by decide +kernel
theorem dL_write_8 : decode cL_write 8 = .ok (.i2l, 1) := by decide +kernel
theorem dL_write_9 : decode cL_write 9 = .ok (.lastore, 1) := by decide +kernel
theorem dL_write_10 : decode cL_write 10 = .ok (.goto 11, 3) := by decide +kernel
theorem dL_write_13 : decode cL_write 13 = .ok (.astore 4, 2) := by decide +kernel
theorem dL_write_15 : decode cL_write 15 = .ok (.iconst 1, 1) := by decide +kernel
theorem dL_write_16 : decode cL_write 16 = .ok (.ireturn, 1) := by decide +kernel
theorem dL_write_17 : decode cL_write 17 = .ok (.astore 4, 2) := by decide +kernel
theorem dL_write_19 : decode cL_write 19 = .ok (.iconst 2, 1) := by decide +kernel
theorem dL_write_20 : decode cL_write 20 = .ok (.ireturn, 1) := by decide +kernel
theorem dL_write_21 : decode cL_write 21 = .ok (.iconst 0, 1) := by decide +kernel
theorem dL_write_22 : decode cL_write 22 = .ok (.ireturn, 1) := by decide +kernel
theorem dL_pass_0 : decode cL_pass 0 = .ok (.aload_n 2, 1) := by decide +kernel
theorem dL_pass_1 : decode cL_pass 1 = .ok (.iconst 0, 1) := by decide +kernel
theorem dL_pass_2 : decode cL_pass 2 = .ok (.aload_n 0, 1) := by decide +kernel
theorem dL_pass_3 : decode cL_pass 3 = .ok (.iload_n 1, 1) := by decide +kernel
theorem dL_pass_4 : decode cL_pass 4 = .ok (.invokevirtual 56, 3) := by decide +kernel
theorem dL_pass_7 : decode cL_pass 7 = .ok (.i2l, 1) := by decide +kernel
theorem dL_pass_8 : decode cL_pass 8 = .ok (.lastore, 1) := by decide +kernel
theorem dL_pass_9 : decode cL_pass 9 = .ok (.goto 6, 3) := by decide +kernel
theorem dL_pass_12 : decode cL_pass 12 = .ok (.astore_n 3, 1) := by decide +kernel
theorem dL_pass_13 : decode cL_pass 13 = .ok (.iconst 1, 1) := by decide +kernel
theorem dL_pass_14 : decode cL_pass 14 = .ok (.ireturn, 1) := by decide +kernel
theorem dL_pass_15 : decode cL_pass 15 = .ok (.iconst 0, 1) := by decide +kernel
theorem dL_pass_16 : decode cL_pass 16 = .ok (.ireturn, 1) := by decide +kernel
theorem dL_count_0 : decode cL_count 0 = .ok (.aload_n 2, 1) := by decide +kernel
theorem dL_count_1 : decode cL_count 1 = .ok (.iconst 0, 1) := by decide +kernel
theorem dL_count_2 : decode cL_count 2 = .ok (.aload_n 0, 1) := by decide +kernel
theorem dL_count_3 : decode cL_count 3 = .ok (.iload_n 1, 1) := by decide +kernel
theorem dL_count_4 : decode cL_count 4 = .ok (.invokevirtual 59, 3) := by decide +kernel
theorem dL_count_7 : decode cL_count 7 = .ok (.i2l, 1) := by decide +kernel
theorem dL_count_8 : decode cL_count 8 = .ok (.lastore, 1) := by decide +kernel
theorem dL_count_9 : decode cL_count 9 = .ok (.goto 6, 3) := by decide +kernel
theorem dL_count_12 : decode cL_count 12 = .ok (.astore_n 3, 1) := by decide +kernel
theorem dL_count_13 : decode cL_count 13 = .ok (.iconst 1, 1) := by decide +kernel
theorem dL_count_14 : decode cL_count 14 = .ok (.ireturn, 1) := by decide +kernel
theorem dL_count_15 : decode cL_count 15 = .ok (.iconst 0, 1) := by decide +kernel
theorem dL_count_16 : decode cL_count 16 = .ok (.ireturn, 1) := by decide +kernel
theorem dL_rank_0 : decode cL_rank 0 = .ok (.aload_n 2, 1) := by decide +kernel
theorem dL_rank_1 : decode cL_rank 1 = .ok (.iconst 0, 1) := by decide +kernel
theorem dL_rank_2 : decode cL_rank 2 = .ok (.aload_n 0, 1) := by decide +kernel
theorem dL_rank_3 : decode cL_rank 3 = .ok (.iload_n 1, 1) := by decide +kernel
theorem dL_rank_4 : decode cL_rank 4 = .ok (.invokevirtual 62, 3) := by decide +kernel
theorem dL_rank_7 : decode cL_rank 7 = .ok (.i2l, 1) := by decide +kernel
theorem dL_rank_8 : decode cL_rank 8 = .ok (.lastore, 1) := by decide +kernel
theorem dL_rank_9 : decode cL_rank 9 = .ok (.goto 6, 3) := by decide +kernel
theorem dL_rank_12 : decode cL_rank 12 = .ok (.astore_n 3, 1) := by decide +kernel
theorem dL_rank_13 : decode cL_rank 13 = .ok (.iconst 1, 1) := by decide +kernel
theorem dL_rank_14 : decode cL_rank 14 = .ok (.ireturn, 1) := by decide +kernel
theorem dL_rank_15 : decode cL_rank 15 = .ok (.iconst 0, 1) := by decide +kernel
theorem dL_rank_16 : decode cL_rank 16 = .ok (.ireturn, 1) := by decide +kernel
theorem dL_dial_0 : decode cL_dial 0 = .ok (.aload_n 3, 1) := by decide +kernel
theorem dL_dial_1 : decode cL_dial 1 = .ok (.iconst 0, 1) := by decide +kernel
theorem dL_dial_2 : decode cL_dial 2 = .ok (.aload_n 0, 1) := by decide +kernel
theorem dL_dial_3 : decode cL_dial 3 = .ok (.iload_n 1, 1) := by decide +kernel
theorem dL_dial_4 : decode cL_dial 4 = .ok (.iload_n 2, 1) := by decide +kernel
theorem dL_dial_5 : decode cL_dial 5 = .ok (.invokevirtual 65, 3) := by decide +kernel
theorem dL_dial_8 : decode cL_dial 8 = .ok (.i2l, 1) := by decide +kernel
theorem dL_dial_9 : decode cL_dial 9 = .ok (.lastore, 1) := by decide +kernel
theorem dL_dial_10 : decode cL_dial 10 = .ok (.goto 7, 3) := by decide +kernel
theorem dL_dial_13 : decode cL_dial 13 = .ok (.astore 4, 2) := by decide +kernel
theorem dL_dial_15 : decode cL_dial 15 = .ok (.iconst 1, 1) := by decide +kernel
theorem dL_dial_16 : decode cL_dial 16 = .ok (.ireturn, 1) := by decide +kernel
theorem dL_dial_17 : decode cL_dial 17 = .ok (.iconst 0, 1) := by decide +kernel
theorem dL_dial_18 : decode cL_dial 18 = .ok (.ireturn, 1) := by decide +kernel
theorem dL_next_0 : decode cL_next 0 = .ok (.aload_n 3, 1) := by decide +kernel
theorem dL_next_1 : decode cL_next 1 = .ok (.iconst 0, 1) := by decide +kernel
theorem dL_next_2 : decode cL_next 2 = .ok (.aload_n 0, 1) := by decide +kernel
theorem dL_next_3 : decode cL_next 3 = .ok (.iload_n 1, 1) := by decide +kernel
theorem dL_next_4 : decode cL_next 4 = .ok (.iload_n 2, 1) := by decide +kernel
theorem dL_next_5 : decode cL_next 5 = .ok (.invokevirtual 68, 3) := by decide +kernel
theorem dL_next_8 : decode cL_next 8 = .ok (.i2l, 1) := by decide +kernel
theorem dL_next_9 : decode cL_next 9 = .ok (.lastore, 1) := by decide +kernel
theorem dL_next_10 : decode cL_next 10 = .ok (.goto 7, 3) := by decide +kernel
theorem dL_next_13 : decode cL_next 13 = .ok (.astore 4, 2) := by decide +kernel
theorem dL_next_15 : decode cL_next 15 = .ok (.iconst 1, 1) := by decide +kernel
theorem dL_next_16 : decode cL_next 16 = .ok (.ireturn, 1) := by decide +kernel
theorem dL_next_17 : decode cL_next 17 = .ok (.iconst 0, 1) := by decide +kernel
theorem dL_next_18 : decode cL_next 18 = .ok (.ireturn, 1) := by decide +kernel
theorem dL_apart_0 : decode cL_apart 0 = .ok (.aload 4, 2) := by decide +kernel
theorem dL_apart_2 : decode cL_apart 2 = .ok (.iconst 0, 1) := by decide +kernel
theorem dL_apart_3 : decode cL_apart 3 = .ok (.aload_n 0, 1) := by decide +kernel
theorem dL_apart_4 : decode cL_apart 4 = .ok (.iload_n 1, 1) := by decide +kernel
theorem dL_apart_5 : decode cL_apart 5 = .ok (.iload_n 2, 1) := by decide +kernel
theorem dL_apart_6 : decode cL_apart 6 = .ok (.iload_n 3, 1) := by decide +kernel
theorem dL_apart_7 : decode cL_apart 7 = .ok (.invokevirtual 71, 3) := by decide +kernel
theorem dL_apart_10 : decode cL_apart 10 = .ok (.i2l, 1) := by decide +kernel
theorem dL_apart_11 : decode cL_apart 11 = .ok (.lastore, 1) := by decide +kernel
theorem dL_apart_12 : decode cL_apart 12 = .ok (.goto 11, 3) := by decide +kernel
theorem dL_apart_15 : decode cL_apart 15 = .ok (.astore 5, 2) := by decide +kernel
theorem dL_apart_17 : decode cL_apart 17 = .ok (.iconst 1, 1) := by decide +kernel
theorem dL_apart_18 : decode cL_apart 18 = .ok (.ireturn, 1) := by decide +kernel
theorem dL_apart_19 : decode cL_apart 19 = .ok (.astore 5, 2) := by decide +kernel
theorem dL_apart_21 : decode cL_apart 21 = .ok (.iconst 2, 1) := by decide +kernel
theorem dL_apart_22 : decode cL_apart 22 = .ok (.ireturn, 1) := by decide +kernel
theorem dL_apart_23 : decode cL_apart 23 = .ok (.iconst 0, 1) := by decide +kernel
theorem dL_apart_24 : decode cL_apart 24 = .ok (.ireturn, 1) := by decide +kernel
theorem dL_foresee_0 : decode cL_foresee 0 = .ok (.aload_n 3, 1) := by decide +kernel
theorem dL_foresee_1 : decode cL_foresee 1 = .ok (.iconst 0, 1) := by decide +kernel
theorem dL_foresee_2 : decode cL_foresee 2 = .ok (.aload_n 0, 1) := by decide +kernel
theorem dL_foresee_3 : decode cL_foresee 3 = .ok (.iload_n 1, 1) := by decide +kernel
theorem dL_foresee_4 : decode cL_foresee 4 = .ok (.iload_n 2, 1) := by decide +kernel
theorem dL_foresee_5 : decode cL_foresee 5 = .ok (.invokevirtual 74, 3) := by decide +kernel
theorem dL_foresee_8 : decode cL_foresee 8 = .ok (.i2l, 1) := by decide +kernel
theorem dL_foresee_9 : decode cL_foresee 9 = .ok (.lastore, 1) := by decide +kernel
theorem dL_foresee_10 : decode cL_foresee 10 = .ok (.goto 11, 3) := by decide +kernel
theorem dL_foresee_13 : decode cL_foresee 13 = .ok (.astore 4, 2) := by decide +kernel
theorem dL_foresee_15 : decode cL_foresee 15 = .ok (.iconst 1, 1) := by decide +kernel
theorem dL_foresee_16 : decode cL_foresee 16 = .ok (.ireturn, 1) := by decide +kernel
theorem dL_foresee_17 : decode cL_foresee 17 = .ok (.astore 4, 2) := by decide +kernel
theorem dL_foresee_19 : decode cL_foresee 19 = .ok (.iconst 2, 1) := by decide +kernel
theorem dL_foresee_20 : decode cL_foresee 20 = .ok (.ireturn, 1) := by decide +kernel
theorem dL_foresee_21 : decode cL_foresee 21 = .ok (.iconst 0, 1) := by decide +kernel
theorem dL_foresee_22 : decode cL_foresee 22 = .ok (.ireturn, 1) := by decide +kernel
