theorem dX12_token_50 : decode cX12_token 50 = .ok (.iconst 4, 1) := by decide +kernel
theorem dX12_token_51 : decode cX12_token 51 = .ok (.putfield 172, 3) := by decide +kernel
theorem dX12_token_54 : decode cX12_token 54 = .ok (.goto 172, 3) := by decide +kernel
theorem dX12_token_57 : decode cX12_token 57 = .ok (.iload_n 1, 1) := by decide +kernel
theorem dX12_token_58 : decode cX12_token 58 = .ok (.invokestatic 175, 3) := by decide +kernel
theorem dX12_token_61 : decode cX12_token 61 = .ok (.ifCond .eq 84, 3) := by decide +kernel
theorem dX12_token_64 : decode cX12_token 64 = .ok (.aload_n 0, 1) := by decide +kernel
theorem dX12_token_65 : decode cX12_token 65 = .ok (.invokevirtual 165, 3) := by decide +kernel
theorem dX12_token_68 : decode cX12_token 68 = .ok (.invokestatic 175, 3) := by decide +kernel
theorem dX12_token_71 : decode cX12_token 71 = .ok (.ifCond .eq 16, 3) := by decide +kernel
theorem dX12_token_74 : decode cX12_token 74 = .ok (.aload_n 0, 1) := by decide +kernel
theorem dX12_token_75 : decode cX12_token 75 = .ok (.dup, 1) := by decide +kernel
theorem dX12_token_76 : decode cX12_token 76 = .ok (.getfield 159, 3) := by decide +kernel
theorem dX12_token_79 : decode cX12_token 79 = .ok (.iconst 1, 1) := by decide +kernel
theorem dX12_token_80 : decode cX12_token 80 = .ok (.iadd, 1) := by decide +kernel
theorem dX12_token_81 : decode cX12_token 81 = .ok (.putfield 159, 3) := by decide +kernel
theorem dX12_token_84 : decode cX12_token 84 = .ok (.goto (-20), 3) := by decide +kernel
theorem dX12_token_87 : decode cX12_token 87 = .ok (.aload_n 0, 1) := by decide +kernel
theorem dX12_token_88 : decode cX12_token 88 = .ok (.aload_n 0, 1) := by decide +kernel
theorem dX12_token_89 : decode cX12_token 89 = .ok (.invokevirtual 179, 3) := by decide +kernel
theorem dX12_token_92 : decode cX12_token 92 = .ok (.putfield 182, 3) := by decide +kernel
theorem dX12_token_95 : decode cX12_token 95 = .ok (.aload_n 0, 1) := by decide +kernel
theorem dX12_token_96 : decode cX12_token 96 = .ok (.aload_n 0, 1) := by decide +kernel
theorem dX12_token_97 : decode cX12_token 97 = .ok (.getfield 182, 3) := by decide +kernel
theorem dX12_token_100 : decode cX12_token 100 = .ok (.iconst (-1), 1) := by decide +kernel
theorem dX12_token_101 : decode cX12_token 101 = .ok (.if_icmp .eq 7, 3) := by decide +kernel
theorem dX12_token_104 : decode cX12_token 104 = .ok (.iconst 0, 1) := by decide +kernel
theorem dX12_token_105 : decode cX12_token 105 = .ok (.goto 22, 3) := by decide +kernel
theorem dX12_token_108 : decode cX12_token 108 = .ok (.aload_n 0, 1) := by decide +kernel
theorem dX12_token_109 : decode cX12_token 109 = .ok (.getfield 159, 3) := by decide +kernel
theorem dX12_token_112 : decode cX12_token 112 = .ok (.aload_n 0, 1) := by decide +kernel
theorem dX12_token_113 : decode cX12_token 113 = .ok (.getfield 169, 3) := by decide +kernel
theorem dX12_token_116 : decode cX12_token 116 = .ok (.isub, 1) := by decide +kernel
theorem dX12_token_117 : decode cX12_token 117 = .ok (.bipush 6, 2) := by decide +kernel
theorem dX12_token_119 : decode cX12_token 119 = .ok (.if_icmp .le 7, 3) := by decide +kernel
theorem dX12_token_122 : decode cX12_token 122 = .ok (.iconst 5, 1) := by decide +kernel
theorem dX12_token_123 : decode cX12_token 123 = .ok (.goto 4, 3) := by decide +kernel
theorem dX12_token_126 : decode cX12_token 126 = .ok (.iconst 1, 1) := by decide +kernel
theorem dX12_token_127 : decode cX12_token 127 = .ok (.putfield 172, 3) := by decide +kernel
theorem dX12_token_130 : decode cX12_token 130 = .ok (.aload_n 0, 1) := by decide +kernel
theorem dX12_token_131 : decode cX12_token 131 = .ok (.getfield 172, 3) := by decide +kernel
theorem dX12_token_134 : decode cX12_token 134 = .ok (.iconst 1, 1) := by decide +kernel
theorem dX12_token_135 : decode cX12_token 135 = .ok (.if_icmp .ne 91, 3) := by decide +kernel
theorem dX12_token_138 : decode cX12_token 138 = .ok (.aload_n 0, 1) := by decide +kernel
theorem dX12_token_139 : decode cX12_token 139 = .ok (.invokevirtual 185, 3) := by decide +kernel
theorem dX12_token_142 : decode cX12_token 142 = .ok (.goto 84, 3) := by decide +kernel
theorem dX12_token_145 : decode cX12_token 145 = .ok (.iload_n 1, 1) := by decide +kernel
theorem dX12_token_146 : decode cX12_token 146 = .ok (.invokestatic 188, 3) := by decide +kernel
theorem dX12_token_149 : decode cX12_token 149 = .ok (.ifCond .eq 72, 3) := by decide +kernel
theorem dX12_token_152 : decode cX12_token 152 = .ok (.aload_n 0, 1) := by decide +kernel
theorem dX12_token_153 : decode cX12_token 153 = .ok (.iconst 2, 1) := by decide +kernel
theorem dX12_token_154 : decode cX12_token 154 = .ok (.putfield 172, 3) := by decide +kernel
theorem dX12_token_157 : decode cX12_token 157 = .ok (.aload_n 0, 1) := by decide +kernel
theorem dX12_token_158 : decode cX12_token 158 = .ok (.iconst 0, 1) := by decide +kernel
theorem dX12_token_159 : decode cX12_token 159 = .ok (.putfield 182, 3) := by decide +kernel
theorem dX12_token_162 : decode cX12_token 162 = .ok (.aload_n 0, 1) := by decide +kernel
theorem dX12_token_163 : decode cX12_token 163 = .ok (.invokevirtual 165, 3) := by decide +kernel
theorem dX12_token_166 : decode cX12_token 166 = .ok (.invokestatic 188, 3) := by decide +kernel
theorem dX12_token_169 : decode cX12_token 169 = .ok (.ifCond .eq 57, 3) := by decide +kernel
theorem dX12_token_172 : decode cX12_token 172 = .ok (.aload_n 0, 1) := by decide +kernel
theorem dX12_token_173 : decode cX12_token 173 = .ok (.aload_n 0, 1) := by decide +kernel
theorem dX12_token_174 : decode cX12_token 174 = .ok (.getfield 182, 3) := by decide +kernel
theorem dX12_token_177 : decode cX12_token 177 = .ok (.sipush 9999, 3) := by decide +kernel
theorem dX12_token_180 : decode cX12_token 180 = .ok (.if_icmp .le 10, 3) := by decide +kernel
theorem dX12_token_183 : decode cX12_token 183 = .ok (.aload_n 0, 1) := by decide +kernel
theorem dX12_token_184 : decode cX12_token 184 = .ok (.getfield 182, 3) := by decide +kernel
theorem dX12_token_187 : decode cX12_token 187 = .ok (.goto 18, 3) := by decide +kernel
theorem dX12_token_190 : decode cX12_token 190 = .ok (.bipush 10, 2) := by decide +kernel
theorem dX12_token_192 : decode cX12_token 192 = .ok (.aload_n 0, 1) := by decide +kernel
theorem dX12_token_193 : decode cX12_token 193 = .ok (.getfield 182, 3) := by decide +kernel
theorem dX12_token_196 : decode cX12_token 196 = .ok (.imul, 1) := by decide +kernel
theorem dX12_token_197 : decode cX12_token 197 = .ok (.aload_n 0, 1) := by decide +kernel
theorem dX12_token_198 : decode cX12_token 198 = .ok (.invokevirtual 165, 3) := by decide +kernel
theorem dX12_token_201 : decode cX12_token 201 = .ok (.iadd, 1) := by decide +kernel
theorem dX12_token_202 : decode cX12_token 202 = .ok (.bipush 48, 2) := by decide +kernel
theorem dX12_token_204 : decode cX12_token 204 = .ok (.isub, 1) := by decide +kernel
theorem dX12_token_205 : decode cX12_token 205 = .ok (.putfield 182, 3) := by decide +kernel
theorem dX12_token_208 : decode cX12_token 208 = .ok (.aload_n 0, 1) := by decide +kernel
theorem dX12_token_209 : decode cX12_token 209 = .ok (.dup, 1) := by decide +kernel
theorem dX12_token_210 : decode cX12_token 210 = .ok (.getfield 159, 3) := by decide +kernel
theorem dX12_token_213 : decode cX12_token 213 = .ok (.iconst 1, 1) := by decide +kernel
theorem dX12_token_214 : decode cX12_token 214 = .ok (.iadd, 1) := by decide +kernel
theorem dX12_token_215 : decode cX12_token 215 = .ok (.putfield 159, 3) := by decide +kernel
theorem dX12_token_218 : decode cX12_token 218 = .ok (.goto (-56), 3) := by decide +kernel
theorem dX12_token_221 : decode cX12_token 221 = .ok (.aload_n 0, 1) := by decide +kernel
theorem dX12_token_222 : decode cX12_token 222 = .ok (.iload_n 1, 1) := by decide +kernel
theorem dX12_token_223 : decode cX12_token 223 = .ok (.invokevirtual 191, 3) := by decide +kernel
theorem dX12_token_226 : decode cX12_token 226 = .ok (.return_, 1) := by decide +kernel
theorem dX12_sign_0 : decode cX12_sign 0 = .ok (.aload_n 0, 1) := by decide +kernel
theorem dX12_sign_1 : decode cX12_sign 1 = .ok (.dup, 1) := by decide +kernel
theorem dX12_sign_2 : decode cX12_sign 2 = .ok (.getfield 159, 3) := by decide +kernel
theorem dX12_sign_5 : decode cX12_sign 5 = .ok (.iconst 1, 1) := by decide +kernel
theorem dX12_sign_6 : decode cX12_sign 6 = .ok (.iadd, 1) := by decide +kernel
theorem dX12_sign_7 : decode cX12_sign 7 = .ok (.putfield 159, 3) := by decide +kernel
theorem dX12_sign_10 : decode cX12_sign 10 = .ok (.aload_n 0, 1) := by decide +kernel
theorem dX12_sign_11 : decode cX12_sign 11 = .ok (.iload_n 1, 1) := by decide +kernel
theorem dX12_sign_12 : decode cX12_sign 12 = .ok (.bipush 59, 2) := by decide +kernel
theorem dX12_sign_14 : decode cX12_sign 14 = .ok (.if_icmp .eq 57, 3) := by decide +kernel
theorem dX12_sign_17 : decode cX12_sign 17 = .ok (.iload_n 1, 1) := by decide +kernel
theorem dX12_sign_18 : decode cX12_sign 18 = .ok (.bipush 40, 2) := by decide +kernel
theorem dX12_sign_20 : decode cX12_sign 20 = .ok (.if_icmp .eq 51, 3) := by decide +kernel
theorem dX12_sign_23 : decode cX12_sign 23 = .ok (.iload_n 1, 1) := by decide +kernel
theorem dX12_sign_24 : decode cX12_sign 24 = .ok (.bipush 41, 2) := by decide +kernel
theorem dX12_sign_26 : decode cX12_sign 26 = .ok (.if_icmp .eq 45, 3) := by decide +kernel
theorem dX12_sign_29 : decode cX12_sign 29 = .ok (.iload_n 1, 1) := by decide +kernel
theorem dX12_sign_30 : decode cX12_sign 30 = .ok (.bipush 43, 2) := by decide +kernel
theorem dX12_sign_32 : decode cX12_sign 32 = .ok (.if_icmp .eq 39, 3) := by decide +kernel
theorem dX12_sign_35 : decode cX12_sign 35 = .ok (.iload_n 1, 1) := by decide +kernel
theorem dX12_sign_36 : decode cX12_sign 36 = .ok (.bipush 45, 2) := by decide +kernel
theorem dX12_sign_38 : decode cX12_sign 38 = .ok (.if_icmp .eq 33, 3) := by decide +kernel
theorem dX12_sign_41 : decode cX12_sign 41 = .ok (.iload_n 1, 1) := by decide +kernel
theorem dX12_sign_42 : decode cX12_sign 42 = .ok (.bipush 42, 2) := by decide +kernel
theorem dX12_sign_44 : decode cX12_sign 44 = .ok (.if_icmp .eq 27, 3) := by decide +kernel
theorem dX12_sign_47 : decode cX12_sign 47 = .ok (.iload_n 1, 1) := by decide +kernel
theorem dX12_sign_48 : decode cX12_sign 48 = .ok (.bipush 47, 2) := by decide +kernel
theorem dX12_sign_50 : decode cX12_sign 50 = .ok (.if_icmp .eq 21, 3) := by decide +kernel
theorem dX12_sign_53 : decode cX12_sign 53 = .ok (.iload_n 1, 1) := by decide +kernel
theorem dX12_sign_54 : decode cX12_sign 54 = .ok (.bipush 60, 2) := by decide +kernel
theorem dX12_sign_56 : decode cX12_sign 56 = .ok (.if_icmp .eq 15, 3) := by decide +kernel
theorem dX12_sign_59 : decode cX12_sign 59 = .ok (.iload_n 1, 1) := by decide +kernel
theorem dX12_sign_60 : decode cX12_sign 60 = .ok (.bipush 61, 2) := by decide +kernel
theorem dX12_sign_62 : decode cX12_sign 62 = .ok (.if_icmp .eq 9, 3) := by decide +kernel
theorem dX12_sign_65 : decode cX12_sign 65 = .ok (.iload_n 1, 1) := by decide +kernel
theorem dX12_sign_66 : decode cX12_sign 66 = .ok (.bipush 62, 2) := by decide +kernel
theorem dX12_sign_68 : decode cX12_sign 68 = .ok (.if_icmp .ne 7, 3) := by decide +kernel
theorem dX12_sign_71 : decode cX12_sign 71 = .ok (.iconst 3, 1) := by decide +kernel
theorem dX12_sign_72 : decode cX12_sign 72 = .ok (.goto 4, 3) := by decide +kernel
theorem dX12_sign_75 : decode cX12_sign 75 = .ok (.iconst 5, 1) := by decide +kernel
theorem dX12_sign_76 : decode cX12_sign 76 = .ok (.putfield 172, 3) := by decide +kernel
theorem dX12_sign_79 : decode cX12_sign 79 = .ok (.aload_n 0, 1) := by decide +kernel
theorem dX12_sign_80 : decode cX12_sign 80 = .ok (.iload_n 1, 1) := by decide +kernel
theorem dX12_sign_81 : decode cX12_sign 81 = .ok (.putfield 182, 3) := by decide +kernel
theorem dX12_sign_84 : decode cX12_sign 84 = .ok (.iload_n 1, 1) := by decide +kernel
theorem dX12_sign_85 : decode cX12_sign 85 = .ok (.bipush 60, 2) := by decide +kernel
theorem dX12_sign_87 : decode cX12_sign 87 = .ok (.if_icmp .ne 19, 3) := by decide +kernel
theorem dX12_sign_90 : decode cX12_sign 90 = .ok (.aload_n 0, 1) := by decide +kernel
theorem dX12_sign_91 : decode cX12_sign 91 = .ok (.invokevirtual 165, 3) := by decide +kernel
theorem dX12_sign_94 : decode cX12_sign 94 = .ok (.bipush 61, 2) := by decide +kernel
theorem dX12_sign_96 : decode cX12_sign 96 = .ok (.if_icmp .ne 10, 3) := by decide +kernel
theorem dX12_sign_99 : decode cX12_sign 99 = .ok (.aload_n 0, 1) := by decide +kernel
theorem dX12_sign_100 : decode cX12_sign 100 = .ok (.sipush 256, 3) := by decide +kernel
theorem dX12_sign_103 : decode cX12_sign 103 = .ok (.putfield 182, 3) := by decide +kernel
theorem dX12_sign_106 : decode cX12_sign 106 = .ok (.iload_n 1, 1) := by decide +kernel
theorem dX12_sign_107 : decode cX12_sign 107 = .ok (.bipush 60, 2) := by decide +kernel
theorem dX12_sign_109 : decode cX12_sign 109 = .ok (.if_icmp .ne 19, 3) := by decide +kernel
theorem dX12_sign_112 : decode cX12_sign 112 = .ok (.aload_n 0, 1) := by decide +kernel
theorem dX12_sign_113 : decode cX12_sign 113 = .ok (.invokevirtual 165, 3) := by decide +kernel
theorem dX12_sign_116 : decode cX12_sign 116 = .ok (.bipush 62, 2) := by decide +kernel
theorem dX12_sign_118 : decode cX12_sign 118 = .ok (.if_icmp .ne 10, 3) := by decide +kernel
theorem dX12_sign_121 : decode cX12_sign 121 = .ok (.aload_n 0, 1) := by decide +kernel
theorem dX12_sign_122 : decode cX12_sign 122 = .ok (.sipush 257, 3) := by decide +kernel
theorem dX12_sign_125 : decode cX12_sign 125 = .ok (.putfield 182, 3) := by decide +kernel
theorem dX12_sign_128 : decode cX12_sign 128 = .ok (.iload_n 1, 1) := by decide +kernel
theorem dX12_sign_129 : decode cX12_sign 129 = .ok (.bipush 62, 2) := by decide +kernel
theorem dX12_sign_131 : decode cX12_sign 131 = .ok (.if_icmp .ne 19, 3) := by decide +kernel
theorem dX12_sign_134 : decode cX12_sign 134 = .ok (.aload_n 0, 1) := by decide +kernel
theorem dX12_sign_135 : decode cX12_sign 135 = .ok (.invokevirtual 165, 3) := by decide +kernel
theorem dX12_sign_138 : decode cX12_sign 138 = .ok (.bipush 61, 2) := by decide +kernel
theorem dX12_sign_140 : decode cX12_sign 140 = .ok (.if_icmp .ne 10, 3) := by decide +kernel
theorem dX12_sign_143 : decode cX12_sign 143 = .ok (.aload_n 0, 1) := by decide +kernel
theorem dX12_sign_144 : decode cX12_sign 144 = .ok (.sipush 258, 3) := by decide +kernel
theorem dX12_sign_147 : decode cX12_sign 147 = .ok (.putfield 182, 3) := by decide +kernel
theorem dX12_sign_150 : decode cX12_sign 150 = .ok (.aload_n 0, 1) := by decide +kernel
theorem dX12_sign_151 : decode cX12_sign 151 = .ok (.getfield 182, 3) := by decide +kernel
theorem dX12_sign_154 : decode cX12_sign 154 = .ok (.sipush 256, 3) := by decide +kernel
theorem dX12_sign_157 : decode cX12_sign 157 = .ok (.if_icmp .lt 13, 3) := by decide +kernel
theorem dX12_sign_160 : decode cX12_sign 160 = .ok (.aload_n 0, 1) := by decide +kernel
theorem dX12_sign_161 : decode cX12_sign 161 = .ok (.dup, 1) := by decide +kernel
theorem dX12_sign_162 : decode cX12_sign 162 = .ok (.getfield 159, 3) := by decide +kernel
theorem dX12_sign_165 : decode cX12_sign 165 = .ok (.iconst 1, 1) := by decide +kernel
theorem dX12_sign_166 : decode cX12_sign 166 = .ok (.iadd, 1) := by decide +kernel
theorem dX12_sign_167 : decode cX12_sign 167 = .ok (.putfield 159, 3) := by decide +kernel
theorem dX12_sign_170 : decode cX12_sign 170 = .ok (.return_, 1) := by decide +kernel
theorem dX12_word_0 : decode cX12_word 0 = .ok (.iconst 0, 1) := by decide +kernel
theorem dX12_word_1 : decode cX12_word 1 = .ok (.istore_n 1, 1) := by decide +kernel
theorem dX12_word_2 : decode cX12_word 2 = .ok (.iconst 0, 1) := by decide +kernel
theorem dX12_word_3 : decode cX12_word 3 = .ok (.istore_n 2, 1) := by decide +kernel
theorem dX12_word_4 : decode cX12_word 4 = .ok (.iload_n 2, 1) := by decide +kernel
theorem dX12_word_5 : decode cX12_word 5 = .ok (.ldc 195, 2) := by decide +kernel
theorem dX12_word_7 : decode cX12_word 7 = .ok (.invokevirtual 197, 3) := by decide +kernel
theorem dX12_word_10 : decode cX12_word 10 = .ok (.if_icmp .ge 113, 3) := by decide +kernel
theorem dX12_word_13 : decode cX12_word 13 = .ok (.iconst 0, 1) := by decide +kernel
theorem dX12_word_14 : decode cX12_word 14 = .ok (.istore_n 3, 1) := by decide +kernel
theorem dX12_word_15 : decode cX12_word 15 = .ok (.ldc 195, 2) := by decide +kernel
theorem dX12_word_17 : decode cX12_word 17 = .ok (.iload_n 2, 1) := by decide +kernel
theorem dX12_word_18 : decode cX12_word 18 = .ok (.iload_n 3, 1) := by decide +kernel
theorem dX12_word_19 : decode cX12_word 19 = .ok (.iadd, 1) := by decide +kernel
theorem dX12_word_20 : decode cX12_word 20 = .ok (.invokevirtual 201, 3) := by decide +kernel
theorem dX12_word_23 : decode cX12_word 23 = .ok (.bipush 32, 2) := by decide +kernel
theorem dX12_word_25 : decode cX12_word 25 = .ok (.if_icmp .eq 44, 3) := by decide +kernel
theorem dX12_word_28 : decode cX12_word 28 = .ok (.aload_n 0, 1) := by decide +kernel
theorem dX12_word_29 : decode cX12_word 29 = .ok (.getfield 169, 3) := by decide +kernel
theorem dX12_word_32 : decode cX12_word 32 = .ok (.iload_n 3, 1) := by decide +kernel
theorem dX12_word_33 : decode cX12_word 33 = .ok (.iadd, 1) := by decide +kernel
theorem dX12_word_34 : decode cX12_word 34 = .ok (.aload_n 0, 1) := by decide +kernel
theorem dX12_word_35 : decode cX12_word 35 = .ok (.getfield 159, 3) := by decide +kernel
theorem dX12_word_38 : decode cX12_word 38 = .ok (.if_icmp .ge 31, 3) := by decide +kernel
theorem dX12_word_41 : decode cX12_word 41 = .ok (.aload_n 0, 1) := by decide +kernel
theorem dX12_word_42 : decode cX12_word 42 = .ok (.getfield 9, 3) := by decide +kernel
theorem dX12_word_45 : decode cX12_word 45 = .ok (.aload_n 0, 1) := by decide +kernel
theorem dX12_word_46 : decode cX12_word 46 = .ok (.getfield 169, 3) := by decide +kernel
theorem dX12_word_49 : decode cX12_word 49 = .ok (.iload_n 3, 1) := by decide +kernel
theorem dX12_word_50 : decode cX12_word 50 = .ok (.iadd, 1) := by decide +kernel
theorem dX12_word_51 : decode cX12_word 51 = .ok (.iaload, 1) := by decide +kernel
theorem dX12_word_52 : decode cX12_word 52 = .ok (.ldc 195, 2) := by decide +kernel
theorem dX12_word_54 : decode cX12_word 54 = .ok (.iload_n 2, 1) := by decide +kernel
theorem dX12_word_55 : decode cX12_word 55 = .ok (.iload_n 3, 1) := by decide +kernel
theorem dX12_word_56 : decode cX12_word 56 = .ok (.iadd, 1) := by decide +kernel
theorem dX12_word_57 : decode cX12_word 57 = .ok (.invokevirtual 201, 3) := by decide +kernel
theorem dX12_word_60 : decode cX12_word 60 = .ok (.if_icmp .ne 9, 3) := by decide +kernel
theorem dX12_word_63 : decode cX12_word 63 = .ok (.iinc 3 1, 3) := by decide +kernel
theorem dX12_word_66 : decode cX12_word 66 = .ok (.goto (-51), 3) := by decide +kernel
theorem dX12_word_69 : decode cX12_word 69 = .ok (.ldc 195, 2) := by decide +kernel
theorem dX12_word_71 : decode cX12_word 71 = .ok (.iload_n 2, 1) := by decide +kernel
theorem dX12_word_72 : decode cX12_word 72 = .ok (.iload_n 3, 1) := by decide +kernel
theorem dX12_word_73 : decode cX12_word 73 = .ok (.iadd, 1) := by decide +kernel
theorem dX12_word_74 : decode cX12_word 74 = .ok (.invokevirtual 201, 3) := by decide +kernel
theorem dX12_word_77 : decode cX12_word 77 = .ok (.bipush 32, 2) := by decide +kernel
theorem dX12_word_79 : decode cX12_word 79 = .ok (.if_icmp .ne 18, 3) := by decide +kernel
theorem dX12_word_82 : decode cX12_word 82 = .ok (.aload_n 0, 1) := by decide +kernel
theorem dX12_word_83 : decode cX12_word 83 = .ok (.getfield 169, 3) := by decide +kernel
theorem dX12_word_86 : decode cX12_word 86 = .ok (.iload_n 3, 1) := by decide +kernel
theorem dX12_word_87 : decode cX12_word 87 = .ok (.iadd, 1) := by decide +kernel
theorem dX12_word_88 : decode cX12_word 88 = .ok (.aload_n 0, 1) := by decide +kernel
theorem dX12_word_89 : decode cX12_word 89 = .ok (.getfield 159, 3) := by decide +kernel
theorem dX12_word_92 : decode cX12_word 92 = .ok (.if_icmp .ne 5, 3) := by decide +kernel
theorem dX12_word_95 : decode cX12_word 95 = .ok (.iload_n 1, 1) := by decide +kernel
theorem dX12_word_96 : decode cX12_word 96 = .ok (.ireturn, 1) := by decide +kernel
theorem dX12_word_97 : decode cX12_word 97 = .ok (.ldc 195, 2) := by decide +kernel
theorem dX12_word_99 : decode cX12_word 99 = .ok (.iload_n 2, 1) := by decide +kernel
theorem dX12_word_100 : decode cX12_word 100 = .ok (.invokevirtual 201, 3) := by decide +kernel
theorem dX12_word_103 : decode cX12_word 103 = .ok (.bipush 32, 2) := by decide +kernel
theorem dX12_word_105 : decode cX12_word 105 = .ok (.if_icmp .eq 9, 3) := by decide +kernel
theorem dX12_word_108 : decode cX12_word 108 = .ok (.iinc 2 1, 3) := by decide +kernel
theorem dX12_word_111 : decode cX12_word 111 = .ok (.goto (-14), 3) := by decide +kernel
theorem dX12_word_114 : decode cX12_word 114 = .ok (.iinc 2 1, 3) := by decide +kernel
theorem dX12_word_117 : decode cX12_word 117 = .ok (.iinc 1 1, 3) := by decide +kernel
theorem dX12_word_120 : decode cX12_word 120 = .ok (.goto (-116), 3) := by decide +kernel
theorem dX12_word_123 : decode cX12_word 123 = .ok (.iconst (-1), 1) := by decide +kernel
theorem dX12_word_124 : decode cX12_word 124 = .ok (.ireturn, 1) := by decide +kernel
theorem dX12_name_0 : decode cX12_name 0 = .ok (.aload_n 0, 1) := by decide +kernel
theorem dX12_name_1 : decode cX12_name 1 = .ok (.iconst 0, 1) := by decide +kernel
theorem dX12_name_2 : decode cX12_name 2 = .ok (.putfield 182, 3) := by decide +kernel
theorem dX12_name_5 : decode cX12_name 5 = .ok (.iconst 0, 1) := by decide +kernel
theorem dX12_name_6 : decode cX12_name 6 = .ok (.istore_n 1, 1) := by decide +kernel
theorem dX12_name_7 : decode cX12_name 7 = .ok (.iload_n 1, 1) := by decide +kernel
theorem dX12_name_8 : decode cX12_name 8 = .ok (.bipush 6, 2) := by decide +kernel
theorem dX12_name_10 : decode cX12_name 10 = .ok (.if_icmp .ge 53, 3) := by decide +kernel
theorem dX12_name_13 : decode cX12_name 13 = .ok (.aload_n 0, 1) := by decide +kernel
theorem dX12_name_14 : decode cX12_name 14 = .ok (.aload_n 0, 1) := by decide +kernel
theorem dX12_name_15 : decode cX12_name 15 = .ok (.getfield 182, 3) := by decide +kernel
theorem dX12_name_18 : decode cX12_name 18 = .ok (.iconst 5, 1) := by decide +kernel
theorem dX12_name_19 : decode cX12_name 19 = .ok (.ishl, 1) := by decide +kernel
theorem dX12_name_20 : decode cX12_name 20 = .ok (.aload_n 0, 1) := by decide +kernel
theorem dX12_name_21 : decode cX12_name 21 = .ok (.getfield 169, 3) := by decide +kernel
theorem dX12_name_24 : decode cX12_name 24 = .ok (.iload_n 1, 1) := by decide +kernel
theorem dX12_name_25 : decode cX12_name 25 = .ok (.iadd, 1) := by decide +kernel
theorem dX12_name_26 : decode cX12_name 26 = .ok (.aload_n 0, 1) := by decide +kernel
theorem dX12_name_27 : decode cX12_name 27 = .ok (.getfield 159, 3) := by decide +kernel
theorem dX12_name_30 : decode cX12_name 30 = .ok (.if_icmp .ge 22, 3) := by decide +kernel
theorem dX12_name_33 : decode cX12_name 33 = .ok (.aload_n 0, 1) := by decide +kernel
theorem dX12_name_34 : decode cX12_name 34 = .ok (.getfield 9, 3) := by decide +kernel
theorem dX12_name_37 : decode cX12_name 37 = .ok (.aload_n 0, 1) := by decide +kernel
theorem dX12_name_38 : decode cX12_name 38 = .ok (.getfield 169, 3) := by decide +kernel
theorem dX12_name_41 : decode cX12_name 41 = .ok (.iload_n 1, 1) := by decide +kernel
theorem dX12_name_42 : decode cX12_name 42 = .ok (.iadd, 1) := by decide +kernel
theorem dX12_name_43 : decode cX12_name 43 = .ok (.iaload, 1) := by decide +kernel
theorem dX12_name_44 : decode cX12_name 44 = .ok (.bipush 97, 2) := by decide +kernel
theorem dX12_name_46 : decode cX12_name 46 = .ok (.isub, 1) := by decide +kernel
theorem dX12_name_47 : decode cX12_name 47 = .ok (.iconst 1, 1) := by decide +kernel
theorem dX12_name_48 : decode cX12_name 48 = .ok (.iadd, 1) := by decide +kernel
theorem dX12_name_49 : decode cX12_name 49 = .ok (.goto 4, 3) := by decide +kernel
theorem dX12_name_52 : decode cX12_name 52 = .ok (.iconst 0, 1) := by decide +kernel
theorem dX12_name_53 : decode cX12_name 53 = .ok (.ior, 1) := by decide +kernel
theorem dX12_name_54 : decode cX12_name 54 = .ok (.putfield 182, 3) := by decide +kernel
theorem dX12_name_57 : decode cX12_name 57 = .ok (.iinc 1 1, 3) := by decide +kernel
theorem dX12_name_60 : decode cX12_name 60 = .ok (.goto (-53), 3) := by decide +kernel
theorem dX12_name_63 : decode cX12_name 63 = .ok (.return_, 1) := by decide +kernel
theorem dX12_wrong_0 : decode cX12_wrong 0 = .ok (.aload_n 0, 1) := by decide +kernel
theorem dX12_wrong_1 : decode cX12_wrong 1 = .ok (.getfield 205, 3) := by decide +kernel
theorem dX12_wrong_4 : decode cX12_wrong 4 = .ok (.ifCond .eq 4, 3) := by decide +kernel
theorem dX12_wrong_7 : decode cX12_wrong 7 = .ok (.return_, 1) := by decide +kernel
theorem dX12_wrong_8 : decode cX12_wrong 8 = .ok (.aload_n 0, 1) := by decide +kernel
theorem dX12_wrong_9 : decode cX12_wrong 9 = .ok (.iload_n 1, 1) := by decide +kernel
theorem dX12_wrong_10 : decode cX12_wrong 10 = .ok (.putfield 205, 3) := by decide +kernel
theorem dX12_wrong_13 : decode cX12_wrong 13 = .ok (.aload_n 0, 1) := by decide +kernel
theorem dX12_wrong_14 : decode cX12_wrong 14 = .ok (.aload_n 0, 1) := by decide +kernel
theorem dX12_wrong_15 : decode cX12_wrong 15 = .ok (.getfield 169, 3) := by decide +kernel
theorem dX12_wrong_18 : decode cX12_wrong 18 = .ok (.putfield 208, 3) := by decide +kernel
theorem dX12_wrong_21 : decode cX12_wrong 21 = .ok (.return_, 1) := by decide +kernel
theorem dX12_isWord_0 : decode cX12_isWord 0 = .ok (.aload_n 0, 1) := by decide +kernel
theorem dX12_isWord_1 : decode cX12_isWord 1 = .ok (.getfield 205, 3) := by decide +kernel
theorem dX12_isWord_4 : decode cX12_isWord 4 = .ok (.ifCond .ne 22, 3) := by decide +kernel
theorem dX12_isWord_7 : decode cX12_isWord 7 = .ok (.aload_n 0, 1) := by decide +kernel
theorem dX12_isWord_8 : decode cX12_isWord 8 = .ok (.getfield 172, 3) := by decide +kernel
theorem dX12_isWord_11 : decode cX12_isWord 11 = .ok (.ifCond .ne 15, 3) := by decide +kernel
theorem dX12_isWord_14 : decode cX12_isWord 14 = .ok (.aload_n 0, 1) := by decide +kernel
theorem dX12_isWord_15 : decode cX12_isWord 15 = .ok (.getfield 182, 3) := by decide +kernel
theorem dX12_isWord_18 : decode cX12_isWord 18 = .ok (.iload_n 1, 1) := by decide +kernel
theorem dX12_isWord_19 : decode cX12_isWord 19 = .ok (.if_icmp .ne 7, 3) := by decide +kernel
theorem dX12_isWord_22 : decode cX12_isWord 22 = .ok (.iconst 1, 1) := by decide +kernel
theorem dX12_isWord_23 : decode cX12_isWord 23 = .ok (.goto 4, 3) := by decide +kernel
theorem dX12_isWord_26 : decode cX12_isWord 26 = .ok (.iconst 0, 1) := by decide +kernel
theorem dX12_isWord_27 : decode cX12_isWord 27 = .ok (.ireturn, 1) := by decide +kernel
theorem dX12_isSign_0 : decode cX12_isSign 0 = .ok (.aload_n 0, 1) := by decide +kernel
theorem dX12_isSign_1 : decode cX12_isSign 1 = .ok (.getfield 205, 3) := by decide +kernel
theorem dX12_isSign_4 : decode cX12_isSign 4 = .ok (.ifCond .ne 23, 3) := by decide +kernel
theorem dX12_isSign_7 : decode cX12_isSign 7 = .ok (.aload_n 0, 1) := by decide +kernel
theorem dX12_isSign_8 : decode cX12_isSign 8 = .ok (.getfield 172, 3) := by decide +kernel
theorem dX12_isSign_11 : decode cX12_isSign 11 = .ok (.iconst 3, 1) := by decide +kernel
theorem dX12_isSign_12 : decode cX12_isSign 12 = .ok (.if_icmp .ne 15, 3) := by decide +kernel
theorem dX12_isSign_15 : decode cX12_isSign 15 = .ok (.aload_n 0, 1) := by decide +kernel
theorem dX12_isSign_16 : decode cX12_isSign 16 = .ok (.getfield 182, 3) := by decide +kernel
theorem dX12_isSign_19 : decode cX12_isSign 19 = .ok (.iload_n 1, 1) := by decide +kernel
theorem dX12_isSign_20 : decode cX12_isSign 20 = .ok (.if_icmp .ne 7, 3) := by decide +kernel
theorem dX12_isSign_23 : decode cX12_isSign 23 = .ok (.iconst 1, 1) := by decide +kernel
theorem dX12_isSign_24 : decode cX12_isSign 24 = .ok (.goto 4, 3) := by decide +kernel
theorem dX12_isSign_27 : decode cX12_isSign 27 = .ok (.iconst 0, 1) := by decide +kernel
theorem dX12_isSign_28 : decode cX12_isSign 28 = .ok (.ireturn, 1) := by decide +kernel
theorem dX12_goOn_0 : decode cX12_goOn 0 = .ok (.aload_n 0, 1) := by decide +kernel
theorem dX12_goOn_1 : decode cX12_goOn 1 = .ok (.getfield 205, 3) := by decide +kernel
theorem dX12_goOn_4 : decode cX12_goOn 4 = .ok (.ifCond .ne 7, 3) := by decide +kernel
theorem dX12_goOn_7 : decode cX12_goOn 7 = .ok (.aload_n 0, 1) := by decide +kernel
theorem dX12_goOn_8 : decode cX12_goOn 8 = .ok (.invokevirtual 211, 3) := by decide +kernel
theorem dX12_goOn_11 : decode cX12_goOn 11 = .ok (.return_, 1) := by decide +kernel
theorem dX12_numeral_0 : decode cX12_numeral 0 = .ok (.aload_n 0, 1) := by decide +kernel
theorem dX12_numeral_1 : decode cX12_numeral 1 = .ok (.getfield 205, 3) := by decide +kernel
theorem dX12_numeral_4 : decode cX12_numeral 4 = .ok (.ifCond .eq 5, 3) := by decide +kernel
theorem dX12_numeral_7 : decode cX12_numeral 7 = .ok (.iload_n 1, 1) := by decide +kernel
theorem dX12_numeral_8 : decode cX12_numeral 8 = .ok (.ireturn, 1) := by decide +kernel
theorem dX12_numeral_9 : decode cX12_numeral 9 = .ok (.aload_n 0, 1) := by decide +kernel
theorem dX12_numeral_10 : decode cX12_numeral 10 = .ok (.getfield 172, 3) := by decide +kernel
theorem dX12_numeral_13 : decode cX12_numeral 13 = .ok (.iconst 2, 1) := by decide +kernel
theorem dX12_numeral_14 : decode cX12_numeral 14 = .ok (.if_icmp .eq 11, 3) := by decide +kernel
theorem dX12_numeral_17 : decode cX12_numeral 17 = .ok (.aload_n 0, 1) := by decide +kernel
theorem dX12_numeral_18 : decode cX12_numeral 18 = .ok (.iconst 1, 1) := by decide +kernel
theorem dX12_numeral_19 : decode cX12_numeral 19 = .ok (.invokevirtual 214, 3) := by decide +kernel
theorem dX12_numeral_22 : decode cX12_numeral 22 = .ok (.goto 24, 3) := by decide +kernel
theorem dX12_numeral_25 : decode cX12_numeral 25 = .ok (.aload_n 0, 1) := by decide +kernel
theorem dX12_numeral_26 : decode cX12_numeral 26 = .ok (.getfield 182, 3) := by decide +kernel
theorem dX12_numeral_29 : decode cX12_numeral 29 = .ok (.iload_n 1, 1) := by decide +kernel
theorem dX12_numeral_30 : decode cX12_numeral 30 = .ok (.if_icmp .lt 11, 3) := by decide +kernel
theorem dX12_numeral_33 : decode cX12_numeral 33 = .ok (.aload_n 0, 1) := by decide +kernel
theorem dX12_numeral_34 : decode cX12_numeral 34 = .ok (.getfield 182, 3) := by decide +kernel
theorem dX12_numeral_37 : decode cX12_numeral 37 = .ok (.iload_n 2, 1) := by decide +kernel
theorem dX12_numeral_38 : decode cX12_numeral 38 = .ok (.if_icmp .le 8, 3) := by decide +kernel
theorem dX12_numeral_41 : decode cX12_numeral 41 = .ok (.aload_n 0, 1) := by decide +kernel
theorem dX12_numeral_42 : decode cX12_numeral 42 = .ok (.iconst 2, 1) := by decide +kernel
theorem dX12_numeral_43 : decode cX12_numeral 43 = .ok (.invokevirtual 214, 3) := by decide +kernel
theorem dX12_numeral_46 : decode cX12_numeral 46 = .ok (.aload_n 0, 1) := by decide +kernel
theorem dX12_numeral_47 : decode cX12_numeral 47 = .ok (.getfield 205, 3) := by decide +kernel
theorem dX12_numeral_50 : decode cX12_numeral 50 = .ok (.ifCond .eq 5, 3) := by decide +kernel
theorem dX12_numeral_53 : decode cX12_numeral 53 = .ok (.iload_n 1, 1) := by decide +kernel
theorem dX12_numeral_54 : decode cX12_numeral 54 = .ok (.ireturn, 1) := by decide +kernel
theorem dX12_numeral_55 : decode cX12_numeral 55 = .ok (.aload_n 0, 1) := by decide +kernel
theorem dX12_numeral_56 : decode cX12_numeral 56 = .ok (.getfield 182, 3) := by decide +kernel
theorem dX12_numeral_59 : decode cX12_numeral 59 = .ok (.istore_n 3, 1) := by decide +kernel
theorem dX12_numeral_60 : decode cX12_numeral 60 = .ok (.aload_n 0, 1) := by decide +kernel
theorem dX12_numeral_61 : decode cX12_numeral 61 = .ok (.invokevirtual 211, 3) := by decide +kernel
theorem dX12_numeral_64 : decode cX12_numeral 64 = .ok (.iload_n 3, 1) := by decide +kernel
theorem dX12_numeral_65 : decode cX12_numeral 65 = .ok (.ireturn, 1) := by decide +kernel
theorem dX12_found_0 : decode cX12_found 0 = .ok (.iconst 0, 1) := by decide +kernel
theorem dX12_found_1 : decode cX12_found 1 = .ok (.istore 4, 2) := by decide +kernel
theorem dX12_found_3 : decode cX12_found 3 = .ok (.iload 4, 2) := by decide +kernel
theorem dX12_found_5 : decode cX12_found 5 = .ok (.iload_n 2, 1) := by decide +kernel
theorem dX12_found_6 : decode cX12_found 6 = .ok (.if_icmp .ge 22, 3) := by decide +kernel
theorem dX12_found_9 : decode cX12_found 9 = .ok (.aload_n 0, 1) := by decide +kernel
theorem dX12_found_10 : decode cX12_found 10 = .ok (.iload_n 1, 1) := by decide +kernel
theorem dX12_found_11 : decode cX12_found 11 = .ok (.iload 4, 2) := by decide +kernel
theorem dX12_found_13 : decode cX12_found 13 = .ok (.iadd, 1) := by decide +kernel
theorem dX12_found_14 : decode cX12_found 14 = .ok (.iaload, 1) := by decide +kernel
theorem dX12_found_15 : decode cX12_found 15 = .ok (.iload_n 3, 1) := by decide +kernel
theorem dX12_found_16 : decode cX12_found 16 = .ok (.if_icmp .ne 6, 3) := by decide +kernel
theorem dX12_found_19 : decode cX12_found 19 = .ok (.iload 4, 2) := by decide +kernel
theorem dX12_found_21 : decode cX12_found 21 = .ok (.ireturn, 1) := by decide +kernel
theorem dX12_found_22 : decode cX12_found 22 = .ok (.iinc 4 1, 3) := by decide +kernel
theorem dX12_found_25 : decode cX12_found 25 = .ok (.goto (-22), 3) := by decide +kernel
theorem dX12_found_28 : decode cX12_found 28 = .ok (.iconst (-1), 1) := by decide +kernel
theorem dX12_found_29 : decode cX12_found 29 = .ok (.ireturn, 1) := by decide +kernel
theorem dX12_fresh_0 : decode cX12_fresh 0 = .ok (.aload_n 0, 1) := by decide +kernel
theorem dX12_fresh_1 : decode cX12_fresh 1 = .ok (.getfield 205, 3) := by decide +kernel
theorem dX12_fresh_4 : decode cX12_fresh 4 = .ok (.ifCond .eq 5, 3) := by decide +kernel
theorem dX12_fresh_7 : decode cX12_fresh 7 = .ok (.iconst 0, 1) := by decide +kernel
theorem dX12_fresh_8 : decode cX12_fresh 8 = .ok (.ireturn, 1) := by decide +kernel
theorem dX12_fresh_9 : decode cX12_fresh 9 = .ok (.aload_n 0, 1) := by decide +kernel
theorem dX12_fresh_10 : decode cX12_fresh 10 = .ok (.getfield 172, 3) := by decide +kernel
theorem dX12_fresh_13 : decode cX12_fresh 13 = .ok (.iconst 1, 1) := by decide +kernel
theorem dX12_fresh_14 : decode cX12_fresh 14 = .ok (.if_icmp .eq 11, 3) := by decide +kernel
theorem dX12_fresh_17 : decode cX12_fresh 17 = .ok (.aload_n 0, 1) := by decide +kernel
theorem dX12_fresh_18 : decode cX12_fresh 18 = .ok (.iconst 1, 1) := by decide +kernel
theorem dX12_fresh_19 : decode cX12_fresh 19 = .ok (.invokevirtual 214, 3) := by decide +kernel
theorem dX12_fresh_22 : decode cX12_fresh 22 = .ok (.goto 22, 3) := by decide +kernel
theorem dX12_fresh_25 : decode cX12_fresh 25 = .ok (.aload_n 1, 1) := by decide +kernel
theorem dX12_fresh_26 : decode cX12_fresh 26 = .ok (.iload_n 2, 1) := by decide +kernel
theorem dX12_fresh_27 : decode cX12_fresh 27 = .ok (.iload_n 3, 1) := by decide +kernel
theorem dX12_fresh_28 : decode cX12_fresh 28 = .ok (.aload_n 0, 1) := by decide +kernel
theorem dX12_fresh_29 : decode cX12_fresh 29 = .ok (.getfield 182, 3) := by decide +kernel
theorem dX12_fresh_32 : decode cX12_fresh 32 = .ok (.invokestatic 217, 3) := by decide +kernel
theorem dX12_fresh_35 : decode cX12_fresh 35 = .ok (.iconst (-1), 1) := by decide +kernel
theorem dX12_fresh_36 : decode cX12_fresh 36 = .ok (.if_icmp .eq 8, 3) := by decide +kernel
theorem dX12_fresh_39 : decode cX12_fresh 39 = .ok (.aload_n 0, 1) := by decide +kernel
theorem dX12_fresh_40 : decode cX12_fresh 40 = .ok (.iconst 3, 1) := by decide +kernel
theorem dX12_fresh_41 : decode cX12_fresh 41 = .ok (.invokevirtual 214, 3) := by decide +kernel
theorem dX12_fresh_44 : decode cX12_fresh 44 = .ok (.aload_n 0, 1) := by decide +kernel
theorem dX12_fresh_45 : decode cX12_fresh 45 = .ok (.getfield 205, 3) := by decide +kernel
theorem dX12_fresh_48 : decode cX12_fresh 48 = .ok (.ifCond .eq 5, 3) := by decide +kernel
theorem dX12_fresh_51 : decode cX12_fresh 51 = .ok (.iconst 0, 1) := by decide +kernel
theorem dX12_fresh_52 : decode cX12_fresh 52 = .ok (.ireturn, 1) := by decide +kernel
theorem dX12_fresh_53 : decode cX12_fresh 53 = .ok (.aload_n 0, 1) := by decide +kernel
theorem dX12_fresh_54 : decode cX12_fresh 54 = .ok (.getfield 182, 3) := by decide +kernel
theorem dX12_fresh_57 : decode cX12_fresh 57 = .ok (.istore 4, 2) := by decide +kernel
theorem dX12_fresh_59 : decode cX12_fresh 59 = .ok (.aload_n 0, 1) := by decide +kernel
theorem dX12_fresh_60 : decode cX12_fresh 60 = .ok (.invokevirtual 211, 3) := by decide +kernel
theorem dX12_fresh_63 : decode cX12_fresh 63 = .ok (.iload 4, 2) := by decide +kernel
theorem dX12_fresh_65 : decode cX12_fresh 65 = .ok (.ireturn, 1) := by decide +kernel
theorem dX12_corner_0 : decode cX12_corner 0 = .ok (.aload_n 0, 1) := by decide +kernel
theorem dX12_corner_1 : decode cX12_corner 1 = .ok (.getfield 205, 3) := by decide +kernel
theorem dX12_corner_4 : decode cX12_corner 4 = .ok (.ifCond .eq 5, 3) := by decide +kernel
theorem dX12_corner_7 : decode cX12_corner 7 = .ok (.iconst 0, 1) := by decide +kernel
theorem dX12_corner_8 : decode cX12_corner 8 = .ok (.ireturn, 1) := by decide +kernel
theorem dX12_corner_9 : decode cX12_corner 9 = .ok (.aload_n 0, 1) := by decide +kernel
theorem dX12_corner_10 : decode cX12_corner 10 = .ok (.getfield 172, 3) := by decide +kernel
theorem dX12_corner_13 : decode cX12_corner 13 = .ok (.iconst 1, 1) := by decide +kernel
theorem dX12_corner_14 : decode cX12_corner 14 = .ok (.if_icmp .eq 11, 3) := by decide +kernel
theorem dX12_corner_17 : decode cX12_corner 17 = .ok (.aload_n 0, 1) := by decide +kernel
theorem dX12_corner_18 : decode cX12_corner 18 = .ok (.iconst 1, 1) := by decide +kernel
theorem dX12_corner_19 : decode cX12_corner 19 = .ok (.invokevirtual 214, 3) := by decide +kernel
theorem dX12_corner_22 : decode cX12_corner 22 = .ok (.goto 30, 3) := by decide +kernel
theorem dX12_corner_25 : decode cX12_corner 25 = .ok (.aload_n 0, 1) := by decide +kernel
theorem dX12_corner_26 : decode cX12_corner 26 = .ok (.getfield 18, 3) := by decide +kernel
theorem dX12_corner_29 : decode cX12_corner 29 = .ok (.bipush 7, 2) := by decide +kernel
theorem dX12_corner_31 : decode cX12_corner 31 = .ok (.aload_n 0, 1) := by decide +kernel
theorem dX12_corner_32 : decode cX12_corner 32 = .ok (.iconst 0, 1) := by decide +kernel
theorem dX12_corner_33 : decode cX12_corner 33 = .ok (.invokevirtual 221, 3) := by decide +kernel
theorem dX12_corner_36 : decode cX12_corner 36 = .ok (.aload_n 0, 1) := by decide +kernel
theorem dX12_corner_37 : decode cX12_corner 37 = .ok (.getfield 182, 3) := by decide +kernel
theorem dX12_corner_40 : decode cX12_corner 40 = .ok (.invokestatic 217, 3) := by decide +kernel
theorem dX12_corner_43 : decode cX12_corner 43 = .ok (.iconst (-1), 1) := by decide +kernel
theorem dX12_corner_44 : decode cX12_corner 44 = .ok (.if_icmp .ne 8, 3) := by decide +kernel
theorem dX12_corner_47 : decode cX12_corner 47 = .ok (.aload_n 0, 1) := by decide +kernel
theorem dX12_corner_48 : decode cX12_corner 48 = .ok (.iconst 4, 1) := by decide +kernel
theorem dX12_corner_49 : decode cX12_corner 49 = .ok (.invokevirtual 214, 3) := by decide +kernel
theorem dX12_corner_52 : decode cX12_corner 52 = .ok (.aload_n 0, 1) := by decide +kernel
theorem dX12_corner_53 : decode cX12_corner 53 = .ok (.getfield 205, 3) := by decide +kernel
theorem dX12_corner_56 : decode cX12_corner 56 = .ok (.ifCond .eq 7, 3) := by decide +kernel
theorem dX12_corner_59 : decode cX12_corner 59 = .ok (.iconst 0, 1) := by decide +kernel
theorem dX12_corner_60 : decode cX12_corner 60 = .ok (.goto 21, 3) := by decide +kernel
theorem dX12_corner_63 : decode cX12_corner 63 = .ok (.aload_n 0, 1) := by decide +kernel
theorem dX12_corner_64 : decode cX12_corner 64 = .ok (.getfield 18, 3) := by decide +kernel
theorem dX12_corner_67 : decode cX12_corner 67 = .ok (.bipush 7, 2) := by decide +kernel
theorem dX12_corner_69 : decode cX12_corner 69 = .ok (.aload_n 0, 1) := by decide +kernel
theorem dX12_corner_70 : decode cX12_corner 70 = .ok (.iconst 0, 1) := by decide +kernel
theorem dX12_corner_71 : decode cX12_corner 71 = .ok (.invokevirtual 221, 3) := by decide +kernel
theorem dX12_corner_74 : decode cX12_corner 74 = .ok (.aload_n 0, 1) := by decide +kernel
theorem dX12_corner_75 : decode cX12_corner 75 = .ok (.getfield 182, 3) := by decide +kernel
theorem dX12_corner_78 : decode cX12_corner 78 = .ok (.invokestatic 217, 3) := by decide +kernel
theorem dX12_corner_81 : decode cX12_corner 81 = .ok (.ireturn, 1) := by decide +kernel
theorem dX12_fresher_0 : decode cX12_fresher 0 = .ok (.aload_n 0, 1) := by decide +kernel
theorem dX12_fresher_1 : decode cX12_fresher 1 = .ok (.getfield 15, 3) := by decide +kernel
theorem dX12_fresher_4 : decode cX12_fresher 4 = .ok (.bipush 12, 2) := by decide +kernel
theorem dX12_fresher_6 : decode cX12_fresher 6 = .ok (.iload_n 1, 1) := by decide +kernel
theorem dX12_fresher_7 : decode cX12_fresher 7 = .ok (.iadd, 1) := by decide +kernel
theorem dX12_fresher_8 : decode cX12_fresher 8 = .ok (.iaload, 1) := by decide +kernel
theorem dX12_fresher_9 : decode cX12_fresher 9 = .ok (.ireturn, 1) := by decide +kernel
theorem dX12_reads_0 : decode cX12_reads 0 = .ok (.aload_n 0, 1) := by decide +kernel
theorem dX12_reads_1 : decode cX12_reads 1 = .ok (.getfield 15, 3) := by decide +kernel
theorem dX12_reads_4 : decode cX12_reads 4 = .ok (.bipush 12, 2) := by decide +kernel
theorem dX12_reads_6 : decode cX12_reads 6 = .ok (.iload_n 1, 1) := by decide +kernel
theorem dX12_reads_7 : decode cX12_reads 7 = .ok (.iadd, 1) := by decide +kernel
theorem dX12_reads_8 : decode cX12_reads 8 = .ok (.iload_n 2, 1) := by decide +kernel
theorem dX12_reads_9 : decode cX12_reads 9 = .ok (.iastore, 1) := by decide +kernel
theorem dX12_reads_10 : decode cX12_reads 10 = .ok (.return_, 1) := by decide +kernel
theorem dX12_isFull_0 : decode cX12_isFull 0 = .ok (.iload_n 1, 1) := by decide +kernel
theorem dX12_isFull_1 : decode cX12_isFull 1 = .ok (.ifCond .ne 13, 3) := by decide +kernel
theorem dX12_isFull_4 : decode cX12_isFull 4 = .ok (.aload_n 0, 1) := by decide +kernel
theorem dX12_isFull_5 : decode cX12_isFull 5 = .ok (.iconst 0, 1) := by decide +kernel
theorem dX12_isFull_6 : decode cX12_isFull 6 = .ok (.invokevirtual 221, 3) := by decide +kernel
theorem dX12_isFull_9 : decode cX12_isFull 9 = .ok (.bipush 7, 2) := by decide +kernel
theorem dX12_isFull_11 : decode cX12_isFull 11 = .ok (.if_icmp .eq 47, 3) := by decide +kernel
theorem dX12_isFull_14 : decode cX12_isFull 14 = .ok (.iload_n 1, 1) := by decide +kernel
theorem dX12_isFull_15 : decode cX12_isFull 15 = .ok (.iconst 2, 1) := by decide +kernel
theorem dX12_isFull_16 : decode cX12_isFull 16 = .ok (.if_icmp .ne 13, 3) := by decide +kernel
theorem dX12_isFull_19 : decode cX12_isFull 19 = .ok (.aload_n 0, 1) := by decide +kernel
theorem dX12_isFull_20 : decode cX12_isFull 20 = .ok (.iconst 1, 1) := by decide +kernel
theorem dX12_isFull_21 : decode cX12_isFull 21 = .ok (.invokevirtual 221, 3) := by decide +kernel
theorem dX12_isFull_24 : decode cX12_isFull 24 = .ok (.bipush 10, 2) := by decide +kernel
theorem dX12_isFull_26 : decode cX12_isFull 26 = .ok (.if_icmp .eq 32, 3) := by decide +kernel
theorem dX12_isFull_29 : decode cX12_isFull 29 = .ok (.iload_n 1, 1) := by decide +kernel
theorem dX12_isFull_30 : decode cX12_isFull 30 = .ok (.iconst 3, 1) := by decide +kernel
theorem dX12_isFull_31 : decode cX12_isFull 31 = .ok (.if_icmp .ne 12, 3) := by decide +kernel
theorem dX12_isFull_34 : decode cX12_isFull 34 = .ok (.aload_n 0, 1) := by decide +kernel
theorem dX12_isFull_35 : decode cX12_isFull 35 = .ok (.iconst 2, 1) := by decide +kernel
theorem dX12_isFull_36 : decode cX12_isFull 36 = .ok (.invokevirtual 221, 3) := by decide +kernel
theorem dX12_isFull_39 : decode cX12_isFull 39 = .ok (.iconst 4, 1) := by decide +kernel
theorem dX12_isFull_40 : decode cX12_isFull 40 = .ok (.if_icmp .eq 18, 3) := by decide +kernel
theorem dX12_isFull_43 : decode cX12_isFull 43 = .ok (.iload_n 1, 1) := by decide +kernel
theorem dX12_isFull_44 : decode cX12_isFull 44 = .ok (.bipush 6, 2) := by decide +kernel
theorem dX12_isFull_46 : decode cX12_isFull 46 = .ok (.if_icmp .ne 16, 3) := by decide +kernel
theorem dX12_isFull_49 : decode cX12_isFull 49 = .ok (.aload_n 0, 1) := by decide +kernel
theorem dX12_isFull_50 : decode cX12_isFull 50 = .ok (.iconst 3, 1) := by decide +kernel
theorem dX12_isFull_51 : decode cX12_isFull 51 = .ok (.invokevirtual 221, 3) := by decide +kernel
theorem dX12_isFull_54 : decode cX12_isFull 54 = .ok (.iconst 4, 1) := by decide +kernel
theorem dX12_isFull_55 : decode cX12_isFull 55 = .ok (.if_icmp .ne 7, 3) := by decide +kernel
theorem dX12_isFull_58 : decode cX12_isFull 58 = .ok (.iconst 1, 1) := by decide +kernel
theorem dX12_isFull_59 : decode cX12_isFull 59 = .ok (.goto 4, 3) := by decide +kernel
theorem dX12_isFull_62 : decode cX12_isFull 62 = .ok (.iconst 0, 1) := by decide +kernel
theorem dX12_isFull_63 : decode cX12_isFull 63 = .ok (.ireturn, 1) := by decide +kernel
theorem dX12_isOnce_0 : decode cX12_isOnce 0 = .ok (.iload_n 0, 1) := by decide +kernel
theorem dX12_isOnce_1 : decode cX12_isOnce 1 = .ok (.iconst 1, 1) := by decide +kernel
theorem dX12_isOnce_2 : decode cX12_isOnce 2 = .ok (.if_icmp .eq 19, 3) := by decide +kernel
theorem dX12_isOnce_5 : decode cX12_isOnce 5 = .ok (.iload_n 0, 1) := by decide +kernel
theorem dX12_isOnce_6 : decode cX12_isOnce 6 = .ok (.iconst 4, 1) := by decide +kernel
theorem dX12_isOnce_7 : decode cX12_isOnce 7 = .ok (.if_icmp .eq 14, 3) := by decide +kernel
theorem dX12_isOnce_10 : decode cX12_isOnce 10 = .ok (.iload_n 0, 1) := by decide +kernel
theorem dX12_isOnce_11 : decode cX12_isOnce 11 = .ok (.iconst 5, 1) := by decide +kernel
theorem dX12_isOnce_12 : decode cX12_isOnce 12 = .ok (.if_icmp .eq 9, 3) := by decide +kernel
theorem dX12_isOnce_15 : decode cX12_isOnce 15 = .ok (.iload_n 0, 1) := by decide +kernel
theorem dX12_isOnce_16 : decode cX12_isOnce 16 = .ok (.bipush 8, 2) := by decide +kernel
theorem dX12_isOnce_18 : decode cX12_isOnce 18 = .ok (.if_icmp .ne 7, 3) := by decide +kernel
theorem dX12_isOnce_21 : decode cX12_isOnce 21 = .ok (.iconst 1, 1) := by decide +kernel
theorem dX12_isOnce_22 : decode cX12_isOnce 22 = .ok (.goto 4, 3) := by decide +kernel
theorem dX12_isOnce_25 : decode cX12_isOnce 25 = .ok (.iconst 0, 1) := by decide +kernel
theorem dX12_isOnce_26 : decode cX12_isOnce 26 = .ok (.ireturn, 1) := by decide +kernel
theorem dX12_line_0 : decode cX12_line 0 = .ok (.aload_n 0, 1) := by decide +kernel
theorem dX12_line_1 : decode cX12_line 1 = .ok (.getfield 172, 3) := by decide +kernel
theorem dX12_line_4 : decode cX12_line 4 = .ok (.ifCond .ne 12, 3) := by decide +kernel
theorem dX12_line_7 : decode cX12_line 7 = .ok (.aload_n 0, 1) := by decide +kernel
theorem dX12_line_8 : decode cX12_line 8 = .ok (.getfield 182, 3) := by decide +kernel
theorem dX12_line_11 : decode cX12_line 11 = .ok (.bipush 8, 2) := by decide +kernel
theorem dX12_line_13 : decode cX12_line 13 = .ok (.if_icmp .le 9, 3) := by decide +kernel
theorem dX12_line_16 : decode cX12_line 16 = .ok (.aload_n 0, 1) := by decide +kernel
theorem dX12_line_17 : decode cX12_line 17 = .ok (.iconst 1, 1) := by decide +kernel
theorem dX12_line_18 : decode cX12_line 18 = .ok (.invokevirtual 214, 3) := by decide +kernel
theorem dX12_line_21 : decode cX12_line 21 = .ok (.return_, 1) := by decide +kernel
theorem dX12_line_22 : decode cX12_line 22 = .ok (.aload_n 0, 1) := by decide +kernel
theorem dX12_line_23 : decode cX12_line 23 = .ok (.getfield 182, 3) := by decide +kernel
theorem dX12_line_26 : decode cX12_line 26 = .ok (.istore_n 1, 1) := by decide +kernel
theorem dX12_line_27 : decode cX12_line 27 = .ok (.aload_n 0, 1) := by decide +kernel
theorem dX12_line_28 : decode cX12_line 28 = .ok (.iload_n 1, 1) := by decide +kernel
theorem dX12_line_29 : decode cX12_line 29 = .ok (.invokevirtual 225, 3) := by decide +kernel
theorem dX12_line_32 : decode cX12_line 32 = .ok (.ifCond .eq 11, 3) := by decide +kernel
theorem dX12_line_35 : decode cX12_line 35 = .ok (.aload_n 0, 1) := by decide +kernel
theorem dX12_line_36 : decode cX12_line 36 = .ok (.iconst 2, 1) := by decide +kernel
theorem dX12_line_37 : decode cX12_line 37 = .ok (.invokevirtual 214, 3) := by decide +kernel
theorem dX12_line_40 : decode cX12_line 40 = .ok (.goto 27, 3) := by decide +kernel
theorem dX12_line_43 : decode cX12_line 43 = .ok (.iload_n 1, 1) := by decide +kernel
theorem dX12_line_44 : decode cX12_line 44 = .ok (.invokestatic 228, 3) := by decide +kernel
theorem dX12_line_47 : decode cX12_line 47 = .ok (.ifCond .eq 20, 3) := by decide +kernel
theorem dX12_line_50 : decode cX12_line 50 = .ok (.aload_n 0, 1) := by decide +kernel
theorem dX12_line_51 : decode cX12_line 51 = .ok (.getfield 231, 3) := by decide +kernel
theorem dX12_line_54 : decode cX12_line 54 = .ok (.iload_n 1, 1) := by decide +kernel
theorem dX12_line_55 : decode cX12_line 55 = .ok (.ishr, 1) := by decide +kernel
theorem dX12_line_56 : decode cX12_line 56 = .ok (.iconst 1, 1) := by decide +kernel
theorem dX12_line_57 : decode cX12_line 57 = .ok (.iand, 1) := by decide +kernel
theorem dX12_line_58 : decode cX12_line 58 = .ok (.iconst 1, 1) := by decide +kernel
theorem dX12_line_59 : decode cX12_line 59 = .ok (.if_icmp .ne 8, 3) := by decide +kernel
theorem dX12_line_62 : decode cX12_line 62 = .ok (.aload_n 0, 1) := by decide +kernel
theorem dX12_line_63 : decode cX12_line 63 = .ok (.iconst 3, 1) := by decide +kernel
theorem dX12_line_64 : decode cX12_line 64 = .ok (.invokevirtual 214, 3) := by decide +kernel
theorem dX12_line_67 : decode cX12_line 67 = .ok (.aload_n 0, 1) := by decide +kernel
theorem dX12_line_68 : decode cX12_line 68 = .ok (.getfield 205, 3) := by decide +kernel
theorem dX12_line_71 : decode cX12_line 71 = .ok (.ifCond .eq 4, 3) := by decide +kernel
theorem dX12_line_74 : decode cX12_line 74 = .ok (.return_, 1) := by decide +kernel
theorem dX12_line_75 : decode cX12_line 75 = .ok (.aload_n 0, 1) := by decide +kernel
theorem dX12_line_76 : decode cX12_line 76 = .ok (.dup, 1) := by decide +kernel
theorem dX12_line_77 : decode cX12_line 77 = .ok (.getfield 231, 3) := by decide +kernel
theorem dX12_line_80 : decode cX12_line 80 = .ok (.iconst 1, 1) := by decide +kernel
theorem dX12_line_81 : decode cX12_line 81 = .ok (.iload_n 1, 1) := by decide +kernel
theorem dX12_line_82 : decode cX12_line 82 = .ok (.ishl, 1) := by decide +kernel
theorem dX12_line_83 : decode cX12_line 83 = .ok (.ior, 1) := by decide +kernel
theorem dX12_line_84 : decode cX12_line 84 = .ok (.putfield 231, 3) := by decide +kernel
theorem dX12_line_87 : decode cX12_line 87 = .ok (.aload_n 0, 1) := by decide +kernel
theorem dX12_line_88 : decode cX12_line 88 = .ok (.invokevirtual 211, 3) := by decide +kernel
theorem dX12_line_91 : decode cX12_line 91 = .ok (.iload_n 1, 1) := by decide +kernel
theorem dX12_line_92 : decode cX12_line 92 = .ok (.tableswitch 210 0 7 #[48, 63, 92, 107, 121, 155, 189, 203], 48) := by decide +kernel
theorem dX12_line_140 : decode cX12_line 140 = .ok (.aload_n 0, 1) := by decide +kernel
theorem dX12_line_141 : decode cX12_line 141 = .ok (.bipush 7, 2) := by decide +kernel
theorem dX12_line_143 : decode cX12_line 143 = .ok (.aload_n 0, 1) := by decide +kernel
theorem dX12_line_144 : decode cX12_line 144 = .ok (.iconst 0, 1) := by decide +kernel
theorem dX12_line_145 : decode cX12_line 145 = .ok (.invokevirtual 221, 3) := by decide +kernel
theorem dX12_line_148 : decode cX12_line 148 = .ok (.iadd, 1) := by decide +kernel
theorem dX12_line_149 : decode cX12_line 149 = .ok (.invokevirtual 234, 3) := by decide +kernel
theorem dX12_line_152 : decode cX12_line 152 = .ok (.goto 163, 3) := by decide +kernel
theorem dX12_line_155 : decode cX12_line 155 = .ok (.aload_n 0, 1) := by decide +kernel
theorem dX12_line_156 : decode cX12_line 156 = .ok (.iconst 4, 1) := by decide +kernel
theorem dX12_line_157 : decode cX12_line 157 = .ok (.aload_n 0, 1) := by decide +kernel
theorem dX12_line_158 : decode cX12_line 158 = .ok (.invokevirtual 237, 3) := by decide +kernel
theorem dX12_line_161 : decode cX12_line 161 = .ok (.invokevirtual 240, 3) := by decide +kernel
theorem dX12_line_164 : decode cX12_line 164 = .ok (.aload_n 0, 1) := by decide +kernel
theorem dX12_line_165 : decode cX12_line 165 = .ok (.invokevirtual 244, 3) := by decide +kernel
theorem dX12_line_168 : decode cX12_line 168 = .ok (.aload_n 0, 1) := by decide +kernel
theorem dX12_line_169 : decode cX12_line 169 = .ok (.iconst 5, 1) := by decide +kernel
theorem dX12_line_170 : decode cX12_line 170 = .ok (.aload_n 0, 1) := by decide +kernel
theorem dX12_line_171 : decode cX12_line 171 = .ok (.iconst 0, 1) := by decide +kernel
theorem dX12_line_172 : decode cX12_line 172 = .ok (.sipush 999, 3) := by decide +kernel
theorem dX12_line_175 : decode cX12_line 175 = .ok (.invokevirtual 247, 3) := by decide +kernel
theorem dX12_line_178 : decode cX12_line 178 = .ok (.invokevirtual 240, 3) := by decide +kernel
theorem dX12_line_181 : decode cX12_line 181 = .ok (.goto 134, 3) := by decide +kernel
theorem dX12_line_184 : decode cX12_line 184 = .ok (.aload_n 0, 1) := by decide +kernel
theorem dX12_line_185 : decode cX12_line 185 = .ok (.bipush 10, 2) := by decide +kernel
theorem dX12_line_187 : decode cX12_line 187 = .ok (.aload_n 0, 1) := by decide +kernel
theorem dX12_line_188 : decode cX12_line 188 = .ok (.iconst 1, 1) := by decide +kernel
theorem dX12_line_189 : decode cX12_line 189 = .ok (.invokevirtual 221, 3) := by decide +kernel
theorem dX12_line_192 : decode cX12_line 192 = .ok (.iadd, 1) := by decide +kernel
theorem dX12_line_193 : decode cX12_line 193 = .ok (.invokevirtual 251, 3) := by decide +kernel
theorem dX12_line_196 : decode cX12_line 196 = .ok (.goto 119, 3) := by decide +kernel
theorem dX12_line_199 : decode cX12_line 199 = .ok (.aload_n 0, 1) := by decide +kernel
theorem dX12_line_200 : decode cX12_line 200 = .ok (.iconst 4, 1) := by decide +kernel
theorem dX12_line_201 : decode cX12_line 201 = .ok (.aload_n 0, 1) := by decide +kernel
theorem dX12_line_202 : decode cX12_line 202 = .ok (.iconst 2, 1) := by decide +kernel
theorem dX12_line_203 : decode cX12_line 203 = .ok (.invokevirtual 221, 3) := by decide +kernel
theorem dX12_line_206 : decode cX12_line 206 = .ok (.iadd, 1) := by decide +kernel
theorem dX12_line_207 : decode cX12_line 207 = .ok (.invokevirtual 254, 3) := by decide +kernel
theorem dX12_line_210 : decode cX12_line 210 = .ok (.goto 105, 3) := by decide +kernel
theorem dX12_line_213 : decode cX12_line 213 = .ok (.aload_n 0, 1) := by decide +kernel
theorem dX12_line_214 : decode cX12_line 214 = .ok (.bipush 6, 2) := by decide +kernel
theorem dX12_line_216 : decode cX12_line 216 = .ok (.aload_n 0, 1) := by decide +kernel
theorem dX12_line_217 : decode cX12_line 217 = .ok (.iconst 0, 1) := by decide +kernel
theorem dX12_line_218 : decode cX12_line 218 = .ok (.bipush 99, 2) := by decide +kernel
theorem dX12_line_220 : decode cX12_line 220 = .ok (.invokevirtual 247, 3) := by decide +kernel
theorem dX12_line_223 : decode cX12_line 223 = .ok (.invokevirtual 240, 3) := by decide +kernel
theorem dX12_line_226 : decode cX12_line 226 = .ok (.aload_n 0, 1) := by decide +kernel
theorem dX12_line_227 : decode cX12_line 227 = .ok (.bipush 7, 2) := by decide +kernel
theorem dX12_line_229 : decode cX12_line 229 = .ok (.aload_n 0, 1) := by decide +kernel
theorem dX12_line_230 : decode cX12_line 230 = .ok (.aload_n 0, 1) := by decide +kernel
theorem dX12_line_231 : decode cX12_line 231 = .ok (.bipush 6, 2) := by decide +kernel
theorem dX12_line_233 : decode cX12_line 233 = .ok (.invokevirtual 221, 3) := by decide +kernel
theorem dX12_line_236 : decode cX12_line 236 = .ok (.bipush 99, 2) := by decide +kernel
theorem dX12_line_238 : decode cX12_line 238 = .ok (.invokevirtual 247, 3) := by decide +kernel
theorem dX12_line_241 : decode cX12_line 241 = .ok (.invokevirtual 240, 3) := by decide +kernel
theorem dX12_line_244 : decode cX12_line 244 = .ok (.goto 71, 3) := by decide +kernel
theorem dX12_line_247 : decode cX12_line 247 = .ok (.aload_n 0, 1) := by decide +kernel
theorem dX12_line_248 : decode cX12_line 248 = .ok (.bipush 8, 2) := by decide +kernel
theorem dX12_line_250 : decode cX12_line 250 = .ok (.aload_n 0, 1) := by decide +kernel
theorem dX12_line_251 : decode cX12_line 251 = .ok (.iconst 0, 1) := by decide +kernel
theorem dX12_line_252 : decode cX12_line 252 = .ok (.bipush 12, 2) := by decide +kernel
theorem dX12_line_254 : decode cX12_line 254 = .ok (.invokevirtual 247, 3) := by decide +kernel
theorem dX12_line_257 : decode cX12_line 257 = .ok (.invokevirtual 240, 3) := by decide +kernel
theorem dX12_line_260 : decode cX12_line 260 = .ok (.aload_n 0, 1) := by decide +kernel
theorem dX12_line_261 : decode cX12_line 261 = .ok (.bipush 9, 2) := by decide +kernel
theorem dX12_line_263 : decode cX12_line 263 = .ok (.aload_n 0, 1) := by decide +kernel
theorem dX12_line_264 : decode cX12_line 264 = .ok (.aload_n 0, 1) := by decide +kernel
theorem dX12_line_265 : decode cX12_line 265 = .ok (.bipush 8, 2) := by decide +kernel
theorem dX12_line_267 : decode cX12_line 267 = .ok (.invokevirtual 221, 3) := by decide +kernel
theorem dX12_line_270 : decode cX12_line 270 = .ok (.bipush 12, 2) := by decide +kernel
theorem dX12_line_272 : decode cX12_line 272 = .ok (.invokevirtual 247, 3) := by decide +kernel
theorem dX12_line_275 : decode cX12_line 275 = .ok (.invokevirtual 240, 3) := by decide +kernel
theorem dX12_line_278 : decode cX12_line 278 = .ok (.goto 37, 3) := by decide +kernel
theorem dX12_line_281 : decode cX12_line 281 = .ok (.aload_n 0, 1) := by decide +kernel
theorem dX12_line_282 : decode cX12_line 282 = .ok (.iconst 4, 1) := by decide +kernel
theorem dX12_line_283 : decode cX12_line 283 = .ok (.aload_n 0, 1) := by decide +kernel
theorem dX12_line_284 : decode cX12_line 284 = .ok (.iconst 3, 1) := by decide +kernel
theorem dX12_line_285 : decode cX12_line 285 = .ok (.invokevirtual 221, 3) := by decide +kernel
theorem dX12_line_288 : decode cX12_line 288 = .ok (.iadd, 1) := by decide +kernel
theorem dX12_line_289 : decode cX12_line 289 = .ok (.invokevirtual 257, 3) := by decide +kernel
theorem dX12_line_292 : decode cX12_line 292 = .ok (.goto 23, 3) := by decide +kernel
theorem dX12_line_295 : decode cX12_line 295 = .ok (.aload_n 0, 1) := by decide +kernel
theorem dX12_line_296 : decode cX12_line 296 = .ok (.invokevirtual 260, 3) := by decide +kernel
theorem dX12_line_299 : decode cX12_line 299 = .ok (.goto 16, 3) := by decide +kernel
theorem dX12_line_302 : decode cX12_line 302 = .ok (.aload_n 0, 1) := by decide +kernel
theorem dX12_line_303 : decode cX12_line 303 = .ok (.bipush 10, 2) := by decide +kernel
theorem dX12_line_305 : decode cX12_line 305 = .ok (.aload_n 0, 1) := by decide +kernel
theorem dX12_line_306 : decode cX12_line 306 = .ok (.iconst 0, 1) := by decide +kernel
theorem dX12_line_307 : decode cX12_line 307 = .ok (.bipush 99, 2) := by decide +kernel
theorem dX12_line_309 : decode cX12_line 309 = .ok (.invokevirtual 247, 3) := by decide +kernel
theorem dX12_line_312 : decode cX12_line 312 = .ok (.invokevirtual 240, 3) := by decide +kernel
theorem dX12_line_315 : decode cX12_line 315 = .ok (.aload_n 0, 1) := by decide +kernel
theorem dX12_line_316 : decode cX12_line 316 = .ok (.getfield 205, 3) := by decide +kernel
theorem dX12_line_319 : decode cX12_line 319 = .ok (.ifCond .eq 4, 3) := by decide +kernel
theorem dX12_line_322 : decode cX12_line 322 = .ok (.return_, 1) := by decide +kernel
theorem dX12_line_323 : decode cX12_line 323 = .ok (.aload_n 0, 1) := by decide +kernel
theorem dX12_line_324 : decode cX12_line 324 = .ok (.bipush 59, 2) := by decide +kernel
theorem dX12_line_326 : decode cX12_line 326 = .ok (.invokevirtual 263, 3) := by decide +kernel
theorem dX12_line_329 : decode cX12_line 329 = .ok (.ifCond .ne 11, 3) := by decide +kernel
theorem dX12_line_332 : decode cX12_line 332 = .ok (.aload_n 0, 1) := by decide +kernel
theorem dX12_line_333 : decode cX12_line 333 = .ok (.iconst 1, 1) := by decide +kernel
theorem dX12_line_334 : decode cX12_line 334 = .ok (.invokevirtual 214, 3) := by decide +kernel
theorem dX12_line_337 : decode cX12_line 337 = .ok (.goto 7, 3) := by decide +kernel
theorem dX12_line_340 : decode cX12_line 340 = .ok (.aload_n 0, 1) := by decide +kernel
theorem dX12_line_341 : decode cX12_line 341 = .ok (.invokevirtual 211, 3) := by decide +kernel
theorem dX12_line_344 : decode cX12_line 344 = .ok (.aload_n 0, 1) := by decide +kernel
theorem dX12_line_345 : decode cX12_line 345 = .ok (.dup, 1) := by decide +kernel
theorem dX12_line_346 : decode cX12_line 346 = .ok (.getfield 266, 3) := by decide +kernel
theorem dX12_line_349 : decode cX12_line 349 = .ok (.iconst 1, 1) := by decide +kernel
theorem dX12_line_350 : decode cX12_line 350 = .ok (.iadd, 1) := by decide +kernel
theorem dX12_line_351 : decode cX12_line 351 = .ok (.putfield 266, 3) := by decide +kernel
theorem dX12_line_354 : decode cX12_line 354 = .ok (.return_, 1) := by decide +kernel
theorem dX12_cornerLine_0 : decode cX12_cornerLine 0 = .ok (.aload_n 0, 1) := by decide +kernel
theorem dX12_cornerLine_1 : decode cX12_cornerLine 1 = .ok (.getfield 18, 3) := by decide +kernel
theorem dX12_cornerLine_4 : decode cX12_cornerLine 4 = .ok (.iload_n 1, 1) := by decide +kernel
theorem dX12_cornerLine_5 : decode cX12_cornerLine 5 = .ok (.aload_n 0, 1) := by decide +kernel
theorem dX12_cornerLine_6 : decode cX12_cornerLine 6 = .ok (.aload_n 0, 1) := by decide +kernel
theorem dX12_cornerLine_7 : decode cX12_cornerLine 7 = .ok (.getfield 18, 3) := by decide +kernel
theorem dX12_cornerLine_10 : decode cX12_cornerLine 10 = .ok (.bipush 7, 2) := by decide +kernel
theorem dX12_cornerLine_12 : decode cX12_cornerLine 12 = .ok (.aload_n 0, 1) := by decide +kernel
theorem dX12_cornerLine_13 : decode cX12_cornerLine 13 = .ok (.iconst 0, 1) := by decide +kernel
theorem dX12_cornerLine_14 : decode cX12_cornerLine 14 = .ok (.invokevirtual 221, 3) := by decide +kernel
theorem dX12_cornerLine_17 : decode cX12_cornerLine 17 = .ok (.invokevirtual 269, 3) := by decide +kernel
theorem dX12_cornerLine_20 : decode cX12_cornerLine 20 = .ok (.iastore, 1) := by decide +kernel
theorem dX12_cornerLine_21 : decode cX12_cornerLine 21 = .ok (.aload_n 0, 1) := by decide +kernel
theorem dX12_cornerLine_22 : decode cX12_cornerLine 22 = .ok (.getfield 21, 3) := by decide +kernel
theorem dX12_cornerLine_25 : decode cX12_cornerLine 25 = .ok (.iload_n 1, 1) := by decide +kernel
theorem dX12_cornerLine_26 : decode cX12_cornerLine 26 = .ok (.aload_n 0, 1) := by decide +kernel
theorem dX12_cornerLine_27 : decode cX12_cornerLine 27 = .ok (.iconst 0, 1) := by decide +kernel
theorem dX12_cornerLine_28 : decode cX12_cornerLine 28 = .ok (.sipush 999, 3) := by decide +kernel
theorem dX12_cornerLine_31 : decode cX12_cornerLine 31 = .ok (.invokevirtual 247, 3) := by decide +kernel
theorem dX12_cornerLine_34 : decode cX12_cornerLine 34 = .ok (.iastore, 1) := by decide +kernel
theorem dX12_cornerLine_35 : decode cX12_cornerLine 35 = .ok (.aload_n 0, 1) := by decide +kernel
theorem dX12_cornerLine_36 : decode cX12_cornerLine 36 = .ok (.getfield 24, 3) := by decide +kernel
theorem dX12_cornerLine_39 : decode cX12_cornerLine 39 = .ok (.iload_n 1, 1) := by decide +kernel
theorem dX12_cornerLine_40 : decode cX12_cornerLine 40 = .ok (.aload_n 0, 1) := by decide +kernel
theorem dX12_cornerLine_41 : decode cX12_cornerLine 41 = .ok (.iconst 0, 1) := by decide +kernel
theorem dX12_cornerLine_42 : decode cX12_cornerLine 42 = .ok (.bipush 99, 2) := by decide +kernel
theorem dX12_cornerLine_44 : decode cX12_cornerLine 44 = .ok (.invokevirtual 247, 3) := by decide +kernel
theorem dX12_cornerLine_47 : decode cX12_cornerLine 47 = .ok (.iastore, 1) := by decide +kernel
theorem dX12_cornerLine_48 : decode cX12_cornerLine 48 = .ok (.aload_n 0, 1) := by decide +kernel
theorem dX12_cornerLine_49 : decode cX12_cornerLine 49 = .ok (.getfield 27, 3) := by decide +kernel
theorem dX12_cornerLine_52 : decode cX12_cornerLine 52 = .ok (.iload_n 1, 1) := by decide +kernel
theorem dX12_cornerLine_53 : decode cX12_cornerLine 53 = .ok (.bipush 20, 2) := by decide +kernel
theorem dX12_cornerLine_55 : decode cX12_cornerLine 55 = .ok (.iastore, 1) := by decide +kernel
theorem dX12_cornerLine_56 : decode cX12_cornerLine 56 = .ok (.aload_n 0, 1) := by decide +kernel
theorem dX12_cornerLine_57 : decode cX12_cornerLine 57 = .ok (.bipush 9, 2) := by decide +kernel
theorem dX12_cornerLine_59 : decode cX12_cornerLine 59 = .ok (.invokevirtual 273, 3) := by decide +kernel
theorem dX12_cornerLine_62 : decode cX12_cornerLine 62 = .ok (.ifCond .eq 20, 3) := by decide +kernel
theorem dX12_cornerLine_65 : decode cX12_cornerLine 65 = .ok (.aload_n 0, 1) := by decide +kernel
theorem dX12_cornerLine_66 : decode cX12_cornerLine 66 = .ok (.invokevirtual 211, 3) := by decide +kernel
theorem dX12_cornerLine_69 : decode cX12_cornerLine 69 = .ok (.aload_n 0, 1) := by decide +kernel
theorem dX12_cornerLine_70 : decode cX12_cornerLine 70 = .ok (.getfield 27, 3) := by decide +kernel
theorem dX12_cornerLine_73 : decode cX12_cornerLine 73 = .ok (.iload_n 1, 1) := by decide +kernel
theorem dX12_cornerLine_74 : decode cX12_cornerLine 74 = .ok (.aload_n 0, 1) := by decide +kernel
theorem dX12_cornerLine_75 : decode cX12_cornerLine 75 = .ok (.iconst 0, 1) := by decide +kernel
theorem dX12_cornerLine_76 : decode cX12_cornerLine 76 = .ok (.bipush 20, 2) := by decide +kernel
theorem dX12_cornerLine_78 : decode cX12_cornerLine 78 = .ok (.invokevirtual 247, 3) := by decide +kernel
theorem dX12_cornerLine_81 : decode cX12_cornerLine 81 = .ok (.iastore, 1) := by decide +kernel
theorem dX12_cornerLine_82 : decode cX12_cornerLine 82 = .ok (.aload_n 0, 1) := by decide +kernel
theorem dX12_cornerLine_83 : decode cX12_cornerLine 83 = .ok (.iconst 0, 1) := by decide +kernel
theorem dX12_cornerLine_84 : decode cX12_cornerLine 84 = .ok (.aload_n 0, 1) := by decide +kernel
theorem dX12_cornerLine_85 : decode cX12_cornerLine 85 = .ok (.iconst 0, 1) := by decide +kernel
theorem dX12_cornerLine_86 : decode cX12_cornerLine 86 = .ok (.invokevirtual 221, 3) := by decide +kernel
theorem dX12_cornerLine_89 : decode cX12_cornerLine 89 = .ok (.iconst 1, 1) := by decide +kernel
theorem dX12_cornerLine_90 : decode cX12_cornerLine 90 = .ok (.iadd, 1) := by decide +kernel
theorem dX12_cornerLine_91 : decode cX12_cornerLine 91 = .ok (.invokevirtual 240, 3) := by decide +kernel
theorem dX12_cornerLine_94 : decode cX12_cornerLine 94 = .ok (.return_, 1) := by decide +kernel
theorem dX12_streetLine_0 : decode cX12_streetLine 0 = .ok (.aload_n 0, 1) := by decide +kernel
theorem dX12_streetLine_1 : decode cX12_streetLine 1 = .ok (.invokevirtual 237, 3) := by decide +kernel
theorem dX12_streetLine_4 : decode cX12_streetLine 4 = .ok (.istore_n 2, 1) := by decide +kernel
theorem dX12_streetLine_5 : decode cX12_streetLine 5 = .ok (.aload_n 0, 1) := by decide +kernel
theorem dX12_streetLine_6 : decode cX12_streetLine 6 = .ok (.invokevirtual 244, 3) := by decide +kernel
theorem dX12_streetLine_9 : decode cX12_streetLine 9 = .ok (.aload_n 0, 1) := by decide +kernel
theorem dX12_streetLine_10 : decode cX12_streetLine 10 = .ok (.invokevirtual 237, 3) := by decide +kernel
theorem dX12_streetLine_13 : decode cX12_streetLine 13 = .ok (.istore_n 3, 1) := by decide +kernel
theorem dX12_streetLine_14 : decode cX12_streetLine 14 = .ok (.aload_n 0, 1) := by decide +kernel
theorem dX12_streetLine_15 : decode cX12_streetLine 15 = .ok (.getfield 205, 3) := by decide +kernel
theorem dX12_streetLine_18 : decode cX12_streetLine 18 = .ok (.ifCond .ne 20, 3) := by decide +kernel
theorem dX12_streetLine_21 : decode cX12_streetLine 21 = .ok (.aload_n 0, 1) := by decide +kernel
theorem dX12_streetLine_22 : decode cX12_streetLine 22 = .ok (.iload_n 2, 1) := by decide +kernel
theorem dX12_streetLine_23 : decode cX12_streetLine 23 = .ok (.iload_n 3, 1) := by decide +kernel
theorem dX12_streetLine_24 : decode cX12_streetLine 24 = .ok (.invokevirtual 276, 3) := by decide +kernel
theorem dX12_streetLine_27 : decode cX12_streetLine 27 = .ok (.ifCond .eq 11, 3) := by decide +kernel
theorem dX12_streetLine_30 : decode cX12_streetLine 30 = .ok (.aload_n 0, 1) := by decide +kernel
theorem dX12_streetLine_31 : decode cX12_streetLine 31 = .ok (.iconst 3, 1) := by decide +kernel
theorem dX12_streetLine_32 : decode cX12_streetLine 32 = .ok (.invokevirtual 214, 3) := by decide +kernel
theorem dX12_streetLine_35 : decode cX12_streetLine 35 = .ok (.goto 20, 3) := by decide +kernel
theorem dX12_streetLine_38 : decode cX12_streetLine 38 = .ok (.aload_n 0, 1) := by decide +kernel
theorem dX12_streetLine_39 : decode cX12_streetLine 39 = .ok (.getfield 205, 3) := by decide +kernel
theorem dX12_streetLine_42 : decode cX12_streetLine 42 = .ok (.ifCond .ne 13, 3) := by decide +kernel
theorem dX12_streetLine_45 : decode cX12_streetLine 45 = .ok (.iload_n 2, 1) := by decide +kernel
theorem dX12_streetLine_46 : decode cX12_streetLine 46 = .ok (.iload_n 3, 1) := by decide +kernel
theorem dX12_streetLine_47 : decode cX12_streetLine 47 = .ok (.if_icmp .ne 8, 3) := by decide +kernel
theorem dX12_streetLine_50 : decode cX12_streetLine 50 = .ok (.aload_n 0, 1) := by decide +kernel
theorem dX12_streetLine_51 : decode cX12_streetLine 51 = .ok (.iconst 5, 1) := by decide +kernel
theorem dX12_streetLine_52 : decode cX12_streetLine 52 = .ok (.invokevirtual 214, 3) := by decide +kernel
theorem dX12_streetLine_55 : decode cX12_streetLine 55 = .ok (.aload_n 0, 1) := by decide +kernel
theorem dX12_streetLine_56 : decode cX12_streetLine 56 = .ok (.invokevirtual 244, 3) := by decide +kernel
theorem dX12_streetLine_59 : decode cX12_streetLine 59 = .ok (.aload_n 0, 1) := by decide +kernel
theorem dX12_streetLine_60 : decode cX12_streetLine 60 = .ok (.getfield 30, 3) := by decide +kernel
theorem dX12_streetLine_63 : decode cX12_streetLine 63 = .ok (.iload_n 1, 1) := by decide +kernel
theorem dX12_streetLine_64 : decode cX12_streetLine 64 = .ok (.iload_n 2, 1) := by decide +kernel
theorem dX12_streetLine_65 : decode cX12_streetLine 65 = .ok (.iastore, 1) := by decide +kernel
theorem dX12_streetLine_66 : decode cX12_streetLine 66 = .ok (.aload_n 0, 1) := by decide +kernel
theorem dX12_streetLine_67 : decode cX12_streetLine 67 = .ok (.getfield 33, 3) := by decide +kernel
theorem dX12_streetLine_70 : decode cX12_streetLine 70 = .ok (.iload_n 1, 1) := by decide +kernel
theorem dX12_streetLine_71 : decode cX12_streetLine 71 = .ok (.iload_n 3, 1) := by decide +kernel
theorem dX12_streetLine_72 : decode cX12_streetLine 72 = .ok (.iastore, 1) := by decide +kernel
theorem dX12_streetLine_73 : decode cX12_streetLine 73 = .ok (.aload_n 0, 1) := by decide +kernel
theorem dX12_streetLine_74 : decode cX12_streetLine 74 = .ok (.getfield 36, 3) := by decide +kernel
theorem dX12_streetLine_77 : decode cX12_streetLine 77 = .ok (.iload_n 1, 1) := by decide +kernel
theorem dX12_streetLine_78 : decode cX12_streetLine 78 = .ok (.aload_n 0, 1) := by decide +kernel
theorem dX12_streetLine_79 : decode cX12_streetLine 79 = .ok (.iconst 1, 1) := by decide +kernel
theorem dX12_streetLine_80 : decode cX12_streetLine 80 = .ok (.bipush 99, 2) := by decide +kernel
theorem dX12_streetLine_82 : decode cX12_streetLine 82 = .ok (.invokevirtual 247, 3) := by decide +kernel
theorem dX12_streetLine_85 : decode cX12_streetLine 85 = .ok (.iastore, 1) := by decide +kernel
theorem dX12_streetLine_86 : decode cX12_streetLine 86 = .ok (.aload_n 0, 1) := by decide +kernel
theorem dX12_streetLine_87 : decode cX12_streetLine 87 = .ok (.getfield 39, 3) := by decide +kernel
theorem dX12_streetLine_90 : decode cX12_streetLine 90 = .ok (.iload_n 1, 1) := by decide +kernel
theorem dX12_streetLine_91 : decode cX12_streetLine 91 = .ok (.iconst 0, 1) := by decide +kernel
theorem dX12_streetLine_92 : decode cX12_streetLine 92 = .ok (.iastore, 1) := by decide +kernel
theorem dX12_streetLine_93 : decode cX12_streetLine 93 = .ok (.aload_n 0, 1) := by decide +kernel
theorem dX12_streetLine_94 : decode cX12_streetLine 94 = .ok (.getfield 42, 3) := by decide +kernel
theorem dX12_streetLine_97 : decode cX12_streetLine 97 = .ok (.iload_n 1, 1) := by decide +kernel
theorem dX12_streetLine_98 : decode cX12_streetLine 98 = .ok (.iconst 1, 1) := by decide +kernel
theorem dX12_streetLine_99 : decode cX12_streetLine 99 = .ok (.iastore, 1) := by decide +kernel
theorem dX12_streetLine_100 : decode cX12_streetLine 100 = .ok (.aload_n 0, 1) := by decide +kernel
theorem dX12_streetLine_101 : decode cX12_streetLine 101 = .ok (.bipush 10, 2) := by decide +kernel
theorem dX12_streetLine_103 : decode cX12_streetLine 103 = .ok (.invokevirtual 273, 3) := by decide +kernel
theorem dX12_streetLine_106 : decode cX12_streetLine 106 = .ok (.ifCond .eq 19, 3) := by decide +kernel
theorem dX12_streetLine_109 : decode cX12_streetLine 109 = .ok (.aload_n 0, 1) := by decide +kernel
theorem dX12_streetLine_110 : decode cX12_streetLine 110 = .ok (.invokevirtual 211, 3) := by decide +kernel
theorem dX12_streetLine_113 : decode cX12_streetLine 113 = .ok (.aload_n 0, 1) := by decide +kernel
theorem dX12_streetLine_114 : decode cX12_streetLine 114 = .ok (.getfield 39, 3) := by decide +kernel
theorem dX12_streetLine_117 : decode cX12_streetLine 117 = .ok (.iload_n 1, 1) := by decide +kernel
theorem dX12_streetLine_118 : decode cX12_streetLine 118 = .ok (.aload_n 0, 1) := by decide +kernel
theorem dX12_streetLine_119 : decode cX12_streetLine 119 = .ok (.iconst 0, 1) := by decide +kernel
theorem dX12_streetLine_120 : decode cX12_streetLine 120 = .ok (.iconst 3, 1) := by decide +kernel
theorem dX12_streetLine_121 : decode cX12_streetLine 121 = .ok (.invokevirtual 247, 3) := by decide +kernel
theorem dX12_streetLine_124 : decode cX12_streetLine 124 = .ok (.iastore, 1) := by decide +kernel
theorem dX12_streetLine_125 : decode cX12_streetLine 125 = .ok (.aload_n 0, 1) := by decide +kernel
theorem dX12_streetLine_126 : decode cX12_streetLine 126 = .ok (.bipush 11, 2) := by decide +kernel
theorem dX12_streetLine_128 : decode cX12_streetLine 128 = .ok (.invokevirtual 273, 3) := by decide +kernel
theorem dX12_streetLine_131 : decode cX12_streetLine 131 = .ok (.ifCond .eq 20, 3) := by decide +kernel
theorem dX12_streetLine_134 : decode cX12_streetLine 134 = .ok (.aload_n 0, 1) := by decide +kernel
theorem dX12_streetLine_135 : decode cX12_streetLine 135 = .ok (.invokevirtual 211, 3) := by decide +kernel
theorem dX12_streetLine_138 : decode cX12_streetLine 138 = .ok (.aload_n 0, 1) := by decide +kernel
theorem dX12_streetLine_139 : decode cX12_streetLine 139 = .ok (.getfield 42, 3) := by decide +kernel
theorem dX12_streetLine_142 : decode cX12_streetLine 142 = .ok (.iload_n 1, 1) := by decide +kernel
theorem dX12_streetLine_143 : decode cX12_streetLine 143 = .ok (.aload_n 0, 1) := by decide +kernel
theorem dX12_streetLine_144 : decode cX12_streetLine 144 = .ok (.iconst 0, 1) := by decide +kernel
theorem dX12_streetLine_145 : decode cX12_streetLine 145 = .ok (.bipush 99, 2) := by decide +kernel
theorem dX12_streetLine_147 : decode cX12_streetLine 147 = .ok (.invokevirtual 247, 3) := by decide +kernel
theorem dX12_streetLine_150 : decode cX12_streetLine 150 = .ok (.iastore, 1) := by decide +kernel
theorem dX12_streetLine_151 : decode cX12_streetLine 151 = .ok (.aload_n 0, 1) := by decide +kernel
theorem dX12_streetLine_152 : decode cX12_streetLine 152 = .ok (.iconst 1, 1) := by decide +kernel
theorem dX12_streetLine_153 : decode cX12_streetLine 153 = .ok (.aload_n 0, 1) := by decide +kernel
theorem dX12_streetLine_154 : decode cX12_streetLine 154 = .ok (.iconst 1, 1) := by decide +kernel
theorem dX12_streetLine_155 : decode cX12_streetLine 155 = .ok (.invokevirtual 221, 3) := by decide +kernel
theorem dX12_streetLine_158 : decode cX12_streetLine 158 = .ok (.iconst 1, 1) := by decide +kernel
theorem dX12_streetLine_159 : decode cX12_streetLine 159 = .ok (.iadd, 1) := by decide +kernel
theorem dX12_streetLine_160 : decode cX12_streetLine 160 = .ok (.invokevirtual 240, 3) := by decide +kernel
theorem dX12_streetLine_163 : decode cX12_streetLine 163 = .ok (.return_, 1) := by decide +kernel
theorem dX12_hasStreet_0 : decode cX12_hasStreet 0 = .ok (.bipush 10, 2) := by decide +kernel
theorem dX12_hasStreet_2 : decode cX12_hasStreet 2 = .ok (.istore_n 3, 1) := by decide +kernel
theorem dX12_hasStreet_3 : decode cX12_hasStreet 3 = .ok (.iload_n 3, 1) := by decide +kernel
theorem dX12_hasStreet_4 : decode cX12_hasStreet 4 = .ok (.bipush 10, 2) := by decide +kernel
theorem dX12_hasStreet_6 : decode cX12_hasStreet 6 = .ok (.aload_n 0, 1) := by decide +kernel
theorem dX12_hasStreet_7 : decode cX12_hasStreet 7 = .ok (.iconst 1, 1) := by decide +kernel
theorem dX12_hasStreet_8 : decode cX12_hasStreet 8 = .ok (.invokevirtual 221, 3) := by decide +kernel
theorem dX12_hasStreet_11 : decode cX12_hasStreet 11 = .ok (.iadd, 1) := by decide +kernel
theorem dX12_hasStreet_12 : decode cX12_hasStreet 12 = .ok (.if_icmp .ge 51, 3) := by decide +kernel
theorem dX12_hasStreet_15 : decode cX12_hasStreet 15 = .ok (.aload_n 0, 1) := by decide +kernel
theorem dX12_hasStreet_16 : decode cX12_hasStreet 16 = .ok (.getfield 30, 3) := by decide +kernel
theorem dX12_hasStreet_19 : decode cX12_hasStreet 19 = .ok (.iload_n 3, 1) := by decide +kernel
theorem dX12_hasStreet_20 : decode cX12_hasStreet 20 = .ok (.iaload, 1) := by decide +kernel
theorem dX12_hasStreet_21 : decode cX12_hasStreet 21 = .ok (.iload_n 1, 1) := by decide +kernel
theorem dX12_hasStreet_22 : decode cX12_hasStreet 22 = .ok (.if_icmp .ne 13, 3) := by decide +kernel
theorem dX12_hasStreet_25 : decode cX12_hasStreet 25 = .ok (.aload_n 0, 1) := by decide +kernel
theorem dX12_hasStreet_26 : decode cX12_hasStreet 26 = .ok (.getfield 33, 3) := by decide +kernel
theorem dX12_hasStreet_29 : decode cX12_hasStreet 29 = .ok (.iload_n 3, 1) := by decide +kernel
theorem dX12_hasStreet_30 : decode cX12_hasStreet 30 = .ok (.iaload, 1) := by decide +kernel
theorem dX12_hasStreet_31 : decode cX12_hasStreet 31 = .ok (.iload_n 2, 1) := by decide +kernel
theorem dX12_hasStreet_32 : decode cX12_hasStreet 32 = .ok (.if_icmp .eq 23, 3) := by decide +kernel
theorem dX12_hasStreet_35 : decode cX12_hasStreet 35 = .ok (.aload_n 0, 1) := by decide +kernel
theorem dX12_hasStreet_36 : decode cX12_hasStreet 36 = .ok (.getfield 30, 3) := by decide +kernel
theorem dX12_hasStreet_39 : decode cX12_hasStreet 39 = .ok (.iload_n 3, 1) := by decide +kernel
theorem dX12_hasStreet_40 : decode cX12_hasStreet 40 = .ok (.iaload, 1) := by decide +kernel
theorem dX12_hasStreet_41 : decode cX12_hasStreet 41 = .ok (.iload_n 2, 1) := by decide +kernel
theorem dX12_hasStreet_42 : decode cX12_hasStreet 42 = .ok (.if_icmp .ne 15, 3) := by decide +kernel
theorem dX12_hasStreet_45 : decode cX12_hasStreet 45 = .ok (.aload_n 0, 1) := by decide +kernel
theorem dX12_hasStreet_46 : decode cX12_hasStreet 46 = .ok (.getfield 33, 3) := by decide +kernel
theorem dX12_hasStreet_49 : decode cX12_hasStreet 49 = .ok (.iload_n 3, 1) := by decide +kernel
theorem dX12_hasStreet_50 : decode cX12_hasStreet 50 = .ok (.iaload, 1) := by decide +kernel
theorem dX12_hasStreet_51 : decode cX12_hasStreet 51 = .ok (.iload_n 1, 1) := by decide +kernel
theorem dX12_hasStreet_52 : decode cX12_hasStreet 52 = .ok (.if_icmp .ne 5, 3) := by decide +kernel
theorem dX12_hasStreet_55 : decode cX12_hasStreet 55 = .ok (.iconst 1, 1) := by decide +kernel
theorem dX12_hasStreet_56 : decode cX12_hasStreet 56 = .ok (.ireturn, 1) := by decide +kernel
theorem dX12_hasStreet_57 : decode cX12_hasStreet 57 = .ok (.iinc 3 1, 3) := by decide +kernel
theorem dX12_hasStreet_60 : decode cX12_hasStreet 60 = .ok (.goto (-57), 3) := by decide +kernel
theorem dX12_hasStreet_63 : decode cX12_hasStreet 63 = .ok (.iconst 0, 1) := by decide +kernel
theorem dX12_hasStreet_64 : decode cX12_hasStreet 64 = .ok (.ireturn, 1) := by decide +kernel
theorem dX12_pipeLine_0 : decode cX12_pipeLine 0 = .ok (.aload_n 0, 1) := by decide +kernel
theorem dX12_pipeLine_1 : decode cX12_pipeLine 1 = .ok (.getfield 45, 3) := by decide +kernel
theorem dX12_pipeLine_4 : decode cX12_pipeLine 4 = .ok (.iload_n 1, 1) := by decide +kernel
theorem dX12_pipeLine_5 : decode cX12_pipeLine 5 = .ok (.aload_n 0, 1) := by decide +kernel
theorem dX12_pipeLine_6 : decode cX12_pipeLine 6 = .ok (.aload_n 0, 1) := by decide +kernel
theorem dX12_pipeLine_7 : decode cX12_pipeLine 7 = .ok (.iconst 2, 1) := by decide +kernel
theorem dX12_pipeLine_8 : decode cX12_pipeLine 8 = .ok (.invokevirtual 221, 3) := by decide +kernel
theorem dX12_pipeLine_11 : decode cX12_pipeLine 11 = .ok (.ifCond .ne 7, 3) := by decide +kernel
theorem dX12_pipeLine_14 : decode cX12_pipeLine 14 = .ok (.iconst 1, 1) := by decide +kernel
theorem dX12_pipeLine_15 : decode cX12_pipeLine 15 = .ok (.goto 13, 3) := by decide +kernel
theorem dX12_pipeLine_18 : decode cX12_pipeLine 18 = .ok (.aload_n 0, 1) := by decide +kernel
theorem dX12_pipeLine_19 : decode cX12_pipeLine 19 = .ok (.getfield 45, 3) := by decide +kernel
theorem dX12_pipeLine_22 : decode cX12_pipeLine 22 = .ok (.iload_n 1, 1) := by decide +kernel
theorem dX12_pipeLine_23 : decode cX12_pipeLine 23 = .ok (.iconst 1, 1) := by decide +kernel
theorem dX12_pipeLine_24 : decode cX12_pipeLine 24 = .ok (.isub, 1) := by decide +kernel
theorem dX12_pipeLine_25 : decode cX12_pipeLine 25 = .ok (.iaload, 1) := by decide +kernel
theorem dX12_pipeLine_26 : decode cX12_pipeLine 26 = .ok (.iconst 1, 1) := by decide +kernel
theorem dX12_pipeLine_27 : decode cX12_pipeLine 27 = .ok (.iadd, 1) := by decide +kernel
theorem dX12_pipeLine_28 : decode cX12_pipeLine 28 = .ok (.bipush 99, 2) := by decide +kernel
theorem dX12_pipeLine_30 : decode cX12_pipeLine 30 = .ok (.invokevirtual 247, 3) := by decide +kernel
theorem dX12_pipeLine_33 : decode cX12_pipeLine 33 = .ok (.iastore, 1) := by decide +kernel
theorem dX12_pipeLine_34 : decode cX12_pipeLine 34 = .ok (.aload_n 0, 1) := by decide +kernel
theorem dX12_pipeLine_35 : decode cX12_pipeLine 35 = .ok (.getfield 48, 3) := by decide +kernel
theorem dX12_pipeLine_38 : decode cX12_pipeLine 38 = .ok (.iload_n 1, 1) := by decide +kernel
theorem dX12_pipeLine_39 : decode cX12_pipeLine 39 = .ok (.aload_n 0, 1) := by decide +kernel
theorem dX12_pipeLine_40 : decode cX12_pipeLine 40 = .ok (.iconst 0, 1) := by decide +kernel
theorem dX12_pipeLine_41 : decode cX12_pipeLine 41 = .ok (.bipush 99, 2) := by decide +kernel
theorem dX12_pipeLine_43 : decode cX12_pipeLine 43 = .ok (.invokevirtual 247, 3) := by decide +kernel
theorem dX12_pipeLine_46 : decode cX12_pipeLine 46 = .ok (.iastore, 1) := by decide +kernel
theorem dX12_pipeLine_47 : decode cX12_pipeLine 47 = .ok (.aload_n 0, 1) := by decide +kernel
theorem dX12_pipeLine_48 : decode cX12_pipeLine 48 = .ok (.iconst 2, 1) := by decide +kernel
theorem dX12_pipeLine_49 : decode cX12_pipeLine 49 = .ok (.aload_n 0, 1) := by decide +kernel
theorem dX12_pipeLine_50 : decode cX12_pipeLine 50 = .ok (.iconst 2, 1) := by decide +kernel
theorem dX12_pipeLine_51 : decode cX12_pipeLine 51 = .ok (.invokevirtual 221, 3) := by decide +kernel
theorem dX12_pipeLine_54 : decode cX12_pipeLine 54 = .ok (.iconst 1, 1) := by decide +kernel
theorem dX12_pipeLine_55 : decode cX12_pipeLine 55 = .ok (.iadd, 1) := by decide +kernel
theorem dX12_pipeLine_56 : decode cX12_pipeLine 56 = .ok (.invokevirtual 240, 3) := by decide +kernel
theorem dX12_pipeLine_59 : decode cX12_pipeLine 59 = .ok (.return_, 1) := by decide +kernel
theorem dX12_rainLine_0 : decode cX12_rainLine 0 = .ok (.aload_n 0, 1) := by decide +kernel
theorem dX12_rainLine_1 : decode cX12_rainLine 1 = .ok (.getfield 51, 3) := by decide +kernel
theorem dX12_rainLine_4 : decode cX12_rainLine 4 = .ok (.iload_n 1, 1) := by decide +kernel
theorem dX12_rainLine_5 : decode cX12_rainLine 5 = .ok (.aload_n 0, 1) := by decide +kernel
theorem dX12_rainLine_6 : decode cX12_rainLine 6 = .ok (.aload_n 0, 1) := by decide +kernel
theorem dX12_rainLine_7 : decode cX12_rainLine 7 = .ok (.getfield 51, 3) := by decide +kernel
theorem dX12_rainLine_10 : decode cX12_rainLine 10 = .ok (.iconst 4, 1) := by decide +kernel
theorem dX12_rainLine_11 : decode cX12_rainLine 11 = .ok (.aload_n 0, 1) := by decide +kernel
theorem dX12_rainLine_12 : decode cX12_rainLine 12 = .ok (.iconst 3, 1) := by decide +kernel
theorem dX12_rainLine_13 : decode cX12_rainLine 13 = .ok (.invokevirtual 221, 3) := by decide +kernel
theorem dX12_rainLine_16 : decode cX12_rainLine 16 = .ok (.invokevirtual 269, 3) := by decide +kernel
theorem dX12_rainLine_19 : decode cX12_rainLine 19 = .ok (.iastore, 1) := by decide +kernel
theorem dX12_rainLine_20 : decode cX12_rainLine 20 = .ok (.aload_n 0, 1) := by decide +kernel
theorem dX12_rainLine_21 : decode cX12_rainLine 21 = .ok (.getfield 54, 3) := by decide +kernel
theorem dX12_rainLine_24 : decode cX12_rainLine 24 = .ok (.iload_n 1, 1) := by decide +kernel
theorem dX12_rainLine_25 : decode cX12_rainLine 25 = .ok (.iconst 0, 1) := by decide +kernel
theorem dX12_rainLine_26 : decode cX12_rainLine 26 = .ok (.iastore, 1) := by decide +kernel
theorem dX12_rainLine_27 : decode cX12_rainLine 27 = .ok (.aload_n 0, 1) := by decide +kernel
theorem dX12_rainLine_28 : decode cX12_rainLine 28 = .ok (.getfield 205, 3) := by decide +kernel
theorem dX12_rainLine_31 : decode cX12_rainLine 31 = .ok (.ifCond .ne 27, 3) := by decide +kernel
theorem dX12_rainLine_34 : decode cX12_rainLine 34 = .ok (.aload_n 0, 1) := by decide +kernel
theorem dX12_rainLine_35 : decode cX12_rainLine 35 = .ok (.getfield 172, 3) := by decide +kernel
theorem dX12_rainLine_38 : decode cX12_rainLine 38 = .ok (.iconst 2, 1) := by decide +kernel
theorem dX12_rainLine_39 : decode cX12_rainLine 39 = .ok (.if_icmp .ne 19, 3) := by decide +kernel
theorem dX12_rainLine_42 : decode cX12_rainLine 42 = .ok (.aload_n 0, 1) := by decide +kernel
theorem dX12_rainLine_43 : decode cX12_rainLine 43 = .ok (.getfield 54, 3) := by decide +kernel
theorem dX12_rainLine_46 : decode cX12_rainLine 46 = .ok (.iload_n 1, 1) := by decide +kernel
theorem dX12_rainLine_47 : decode cX12_rainLine 47 = .ok (.iaload, 1) := by decide +kernel
theorem dX12_rainLine_48 : decode cX12_rainLine 48 = .ok (.bipush 6, 2) := by decide +kernel
theorem dX12_rainLine_50 : decode cX12_rainLine 50 = .ok (.if_icmp .ne 8, 3) := by decide +kernel
theorem dX12_rainLine_53 : decode cX12_rainLine 53 = .ok (.aload_n 0, 1) := by decide +kernel
theorem dX12_rainLine_54 : decode cX12_rainLine 54 = .ok (.iconst 2, 1) := by decide +kernel
theorem dX12_rainLine_55 : decode cX12_rainLine 55 = .ok (.invokevirtual 214, 3) := by decide +kernel
theorem dX12_rainLine_58 : decode cX12_rainLine 58 = .ok (.aload_n 0, 1) := by decide +kernel
theorem dX12_rainLine_59 : decode cX12_rainLine 59 = .ok (.iconst 0, 1) := by decide +kernel
theorem dX12_rainLine_60 : decode cX12_rainLine 60 = .ok (.bipush 99, 2) := by decide +kernel
theorem dX12_rainLine_62 : decode cX12_rainLine 62 = .ok (.invokevirtual 247, 3) := by decide +kernel
theorem dX12_rainLine_65 : decode cX12_rainLine 65 = .ok (.istore_n 2, 1) := by decide +kernel
theorem dX12_rainLine_66 : decode cX12_rainLine 66 = .ok (.aload_n 0, 1) := by decide +kernel
theorem dX12_rainLine_67 : decode cX12_rainLine 67 = .ok (.getfield 205, 3) := by decide +kernel
theorem dX12_rainLine_70 : decode cX12_rainLine 70 = .ok (.ifCond .eq 4, 3) := by decide +kernel
theorem dX12_rainLine_73 : decode cX12_rainLine 73 = .ok (.return_, 1) := by decide +kernel
theorem dX12_rainLine_74 : decode cX12_rainLine 74 = .ok (.aload_n 0, 1) := by decide +kernel
theorem dX12_rainLine_75 : decode cX12_rainLine 75 = .ok (.getfield 57, 3) := by decide +kernel
theorem dX12_rainLine_78 : decode cX12_rainLine 78 = .ok (.bipush 6, 2) := by decide +kernel
theorem dX12_rainLine_80 : decode cX12_rainLine 80 = .ok (.iload_n 1, 1) := by decide +kernel
theorem dX12_rainLine_81 : decode cX12_rainLine 81 = .ok (.imul, 1) := by decide +kernel
theorem dX12_rainLine_82 : decode cX12_rainLine 82 = .ok (.aload_n 0, 1) := by decide +kernel
theorem dX12_rainLine_83 : decode cX12_rainLine 83 = .ok (.getfield 54, 3) := by decide +kernel
theorem dX12_rainLine_86 : decode cX12_rainLine 86 = .ok (.iload_n 1, 1) := by decide +kernel
theorem dX12_rainLine_87 : decode cX12_rainLine 87 = .ok (.iaload, 1) := by decide +kernel
theorem dX12_rainLine_88 : decode cX12_rainLine 88 = .ok (.iadd, 1) := by decide +kernel
theorem dX12_rainLine_89 : decode cX12_rainLine 89 = .ok (.iload_n 2, 1) := by decide +kernel
theorem dX12_rainLine_90 : decode cX12_rainLine 90 = .ok (.iastore, 1) := by decide +kernel
theorem dX12_rainLine_91 : decode cX12_rainLine 91 = .ok (.aload_n 0, 1) := by decide +kernel
theorem dX12_rainLine_92 : decode cX12_rainLine 92 = .ok (.getfield 54, 3) := by decide +kernel
theorem dX12_rainLine_95 : decode cX12_rainLine 95 = .ok (.iload_n 1, 1) := by decide +kernel
theorem dX12_rainLine_96 : decode cX12_rainLine 96 = .ok (.dup2, 1) := by decide +kernel
theorem dX12_rainLine_97 : decode cX12_rainLine 97 = .ok (.iaload, 1) := by decide +kernel
theorem dX12_rainLine_98 : decode cX12_rainLine 98 = .ok (.iconst 1, 1) := by decide +kernel
theorem dX12_rainLine_99 : decode cX12_rainLine 99 = .ok (.iadd, 1) := by decide +kernel
theorem dX12_rainLine_100 : decode cX12_rainLine 100 = .ok (.iastore, 1) := by decide +kernel
theorem dX12_rainLine_101 : decode cX12_rainLine 101 = .ok (.aload_n 0, 1) := by decide +kernel
theorem dX12_rainLine_102 : decode cX12_rainLine 102 = .ok (.getfield 172, 3) := by decide +kernel
theorem dX12_rainLine_105 : decode cX12_rainLine 105 = .ok (.iconst 2, 1) := by decide +kernel
theorem dX12_rainLine_106 : decode cX12_rainLine 106 = .ok (.if_icmp .eq (-79), 3) := by decide +kernel
theorem dX12_rainLine_109 : decode cX12_rainLine 109 = .ok (.aload_n 0, 1) := by decide +kernel
theorem dX12_rainLine_110 : decode cX12_rainLine 110 = .ok (.iconst 3, 1) := by decide +kernel
theorem dX12_rainLine_111 : decode cX12_rainLine 111 = .ok (.aload_n 0, 1) := by decide +kernel
theorem dX12_rainLine_112 : decode cX12_rainLine 112 = .ok (.iconst 3, 1) := by decide +kernel
theorem dX12_rainLine_113 : decode cX12_rainLine 113 = .ok (.invokevirtual 221, 3) := by decide +kernel
theorem dX12_rainLine_116 : decode cX12_rainLine 116 = .ok (.iconst 1, 1) := by decide +kernel
theorem dX12_rainLine_117 : decode cX12_rainLine 117 = .ok (.iadd, 1) := by decide +kernel
theorem dX12_rainLine_118 : decode cX12_rainLine 118 = .ok (.invokevirtual 240, 3) := by decide +kernel
theorem dX12_rainLine_121 : decode cX12_rainLine 121 = .ok (.return_, 1) := by decide +kernel
theorem dX12_lawLine_0 : decode cX12_lawLine 0 = .ok (.aload_n 0, 1) := by decide +kernel
theorem dX12_lawLine_1 : decode cX12_lawLine 1 = .ok (.getfield 172, 3) := by decide +kernel
theorem dX12_lawLine_4 : decode cX12_lawLine 4 = .ok (.ifCond .ne 21, 3) := by decide +kernel
theorem dX12_lawLine_7 : decode cX12_lawLine 7 = .ok (.aload_n 0, 1) := by decide +kernel
theorem dX12_lawLine_8 : decode cX12_lawLine 8 = .ok (.getfield 182, 3) := by decide +kernel
theorem dX12_lawLine_11 : decode cX12_lawLine 11 = .ok (.bipush 12, 2) := by decide +kernel
theorem dX12_lawLine_13 : decode cX12_lawLine 13 = .ok (.if_icmp .lt 12, 3) := by decide +kernel
theorem dX12_lawLine_16 : decode cX12_lawLine 16 = .ok (.aload_n 0, 1) := by decide +kernel
theorem dX12_lawLine_17 : decode cX12_lawLine 17 = .ok (.getfield 182, 3) := by decide +kernel
theorem dX12_lawLine_20 : decode cX12_lawLine 20 = .ok (.bipush 14, 2) := by decide +kernel
theorem dX12_lawLine_22 : decode cX12_lawLine 22 = .ok (.if_icmp .le 8, 3) := by decide +kernel
theorem dX12_lawLine_25 : decode cX12_lawLine 25 = .ok (.aload_n 0, 1) := by decide +kernel
theorem dX12_lawLine_26 : decode cX12_lawLine 26 = .ok (.iconst 1, 1) := by decide +kernel
theorem dX12_lawLine_27 : decode cX12_lawLine 27 = .ok (.invokevirtual 214, 3) := by decide +kernel
theorem dX12_lawLine_30 : decode cX12_lawLine 30 = .ok (.aload_n 0, 1) := by decide +kernel
theorem dX12_lawLine_31 : decode cX12_lawLine 31 = .ok (.getfield 182, 3) := by decide +kernel
theorem dX12_lawLine_34 : decode cX12_lawLine 34 = .ok (.bipush 12, 2) := by decide +kernel
theorem dX12_lawLine_36 : decode cX12_lawLine 36 = .ok (.isub, 1) := by decide +kernel
theorem dX12_lawLine_37 : decode cX12_lawLine 37 = .ok (.istore_n 1, 1) := by decide +kernel
theorem dX12_lawLine_38 : decode cX12_lawLine 38 = .ok (.aload_n 0, 1) := by decide +kernel
theorem dX12_lawLine_39 : decode cX12_lawLine 39 = .ok (.getfield 205, 3) := by decide +kernel
theorem dX12_lawLine_42 : decode cX12_lawLine 42 = .ok (.ifCond .ne 23, 3) := by decide +kernel
theorem dX12_lawLine_45 : decode cX12_lawLine 45 = .ok (.aload_n 0, 1) := by decide +kernel
theorem dX12_lawLine_46 : decode cX12_lawLine 46 = .ok (.getfield 231, 3) := by decide +kernel
theorem dX12_lawLine_49 : decode cX12_lawLine 49 = .ok (.bipush 16, 2) := by decide +kernel
theorem dX12_lawLine_51 : decode cX12_lawLine 51 = .ok (.iload_n 1, 1) := by decide +kernel
theorem dX12_lawLine_52 : decode cX12_lawLine 52 = .ok (.iadd, 1) := by decide +kernel
theorem dX12_lawLine_53 : decode cX12_lawLine 53 = .ok (.ishr, 1) := by decide +kernel
theorem dX12_lawLine_54 : decode cX12_lawLine 54 = .ok (.iconst 1, 1) := by decide +kernel
theorem dX12_lawLine_55 : decode cX12_lawLine 55 = .ok (.iand, 1) := by decide +kernel
theorem dX12_lawLine_56 : decode cX12_lawLine 56 = .ok (.iconst 1, 1) := by decide +kernel
theorem dX12_lawLine_57 : decode cX12_lawLine 57 = .ok (.if_icmp .ne 8, 3) := by decide +kernel
theorem dX12_lawLine_60 : decode cX12_lawLine 60 = .ok (.aload_n 0, 1) := by decide +kernel
theorem dX12_lawLine_61 : decode cX12_lawLine 61 = .ok (.iconst 3, 1) := by decide +kernel
theorem dX12_lawLine_62 : decode cX12_lawLine 62 = .ok (.invokevirtual 214, 3) := by decide +kernel
theorem dX12_lawLine_65 : decode cX12_lawLine 65 = .ok (.aload_n 0, 1) := by decide +kernel
theorem dX12_lawLine_66 : decode cX12_lawLine 66 = .ok (.getfield 205, 3) := by decide +kernel
theorem dX12_lawLine_69 : decode cX12_lawLine 69 = .ok (.ifCond .eq 4, 3) := by decide +kernel
theorem dX12_lawLine_72 : decode cX12_lawLine 72 = .ok (.return_, 1) := by decide +kernel
theorem dX12_lawLine_73 : decode cX12_lawLine 73 = .ok (.aload_n 0, 1) := by decide +kernel
theorem dX12_lawLine_74 : decode cX12_lawLine 74 = .ok (.dup, 1) := by decide +kernel
theorem dX12_lawLine_75 : decode cX12_lawLine 75 = .ok (.getfield 231, 3) := by decide +kernel
theorem dX12_lawLine_78 : decode cX12_lawLine 78 = .ok (.iconst 1, 1) := by decide +kernel
theorem dX12_lawLine_79 : decode cX12_lawLine 79 = .ok (.bipush 16, 2) := by decide +kernel
theorem dX12_lawLine_81 : decode cX12_lawLine 81 = .ok (.iload_n 1, 1) := by decide +kernel
theorem dX12_lawLine_82 : decode cX12_lawLine 82 = .ok (.iadd, 1) := by decide +kernel
theorem dX12_lawLine_83 : decode cX12_lawLine 83 = .ok (.ishl, 1) := by decide +kernel
theorem dX12_lawLine_84 : decode cX12_lawLine 84 = .ok (.ior, 1) := by decide +kernel
theorem dX12_lawLine_85 : decode cX12_lawLine 85 = .ok (.putfield 231, 3) := by decide +kernel
theorem dX12_lawLine_88 : decode cX12_lawLine 88 = .ok (.aload_n 0, 1) := by decide +kernel
theorem dX12_lawLine_89 : decode cX12_lawLine 89 = .ok (.invokevirtual 211, 3) := by decide +kernel
theorem dX12_lawLine_92 : decode cX12_lawLine 92 = .ok (.aload_n 0, 1) := by decide +kernel
theorem dX12_lawLine_93 : decode cX12_lawLine 93 = .ok (.getfield 60, 3) := by decide +kernel
theorem dX12_lawLine_96 : decode cX12_lawLine 96 = .ok (.iconst 3, 1) := by decide +kernel
theorem dX12_lawLine_97 : decode cX12_lawLine 97 = .ok (.iload_n 1, 1) := by decide +kernel
theorem dX12_lawLine_98 : decode cX12_lawLine 98 = .ok (.iadd, 1) := by decide +kernel
theorem dX12_lawLine_99 : decode cX12_lawLine 99 = .ok (.aload_n 0, 1) := by decide +kernel
theorem dX12_lawLine_100 : decode cX12_lawLine 100 = .ok (.bipush 11, 2) := by decide +kernel
theorem dX12_lawLine_102 : decode cX12_lawLine 102 = .ok (.invokevirtual 221, 3) := by decide +kernel
theorem dX12_lawLine_105 : decode cX12_lawLine 105 = .ok (.iastore, 1) := by decide +kernel
theorem dX12_lawLine_106 : decode cX12_lawLine 106 = .ok (.aload_n 0, 1) := by decide +kernel
theorem dX12_lawLine_107 : decode cX12_lawLine 107 = .ok (.invokevirtual 280, 3) := by decide +kernel
theorem dX12_lawLine_110 : decode cX12_lawLine 110 = .ok (.aload_n 0, 1) := by decide +kernel
theorem dX12_lawLine_111 : decode cX12_lawLine 111 = .ok (.getfield 63, 3) := by decide +kernel
theorem dX12_lawLine_114 : decode cX12_lawLine 114 = .ok (.iconst 3, 1) := by decide +kernel
theorem dX12_lawLine_115 : decode cX12_lawLine 115 = .ok (.iload_n 1, 1) := by decide +kernel
theorem dX12_lawLine_116 : decode cX12_lawLine 116 = .ok (.iadd, 1) := by decide +kernel
theorem dX12_lawLine_117 : decode cX12_lawLine 117 = .ok (.aload_n 0, 1) := by decide +kernel
theorem dX12_lawLine_118 : decode cX12_lawLine 118 = .ok (.bipush 11, 2) := by decide +kernel
theorem dX12_lawLine_120 : decode cX12_lawLine 120 = .ok (.invokevirtual 221, 3) := by decide +kernel
theorem dX12_lawLine_123 : decode cX12_lawLine 123 = .ok (.iastore, 1) := by decide +kernel
theorem dX12_lawLine_124 : decode cX12_lawLine 124 = .ok (.return_, 1) := by decide +kernel
theorem dX12_puts_0 : decode cX12_puts 0 = .ok (.aload_n 0, 1) := by decide +kernel
theorem dX12_puts_1 : decode cX12_puts 1 = .ok (.getfield 205, 3) := by decide +kernel
theorem dX12_puts_4 : decode cX12_puts 4 = .ok (.ifCond .eq 4, 3) := by decide +kernel
theorem dX12_puts_7 : decode cX12_puts 7 = .ok (.return_, 1) := by decide +kernel
theorem dX12_puts_8 : decode cX12_puts 8 = .ok (.aload_n 0, 1) := by decide +kernel
theorem dX12_puts_9 : decode cX12_puts 9 = .ok (.getfield 66, 3) := by decide +kernel
theorem dX12_puts_12 : decode cX12_puts 12 = .ok (.bipush 64, 2) := by decide +kernel
theorem dX12_puts_14 : decode cX12_puts 14 = .ok (.aload_n 0, 1) := by decide +kernel
theorem dX12_puts_15 : decode cX12_puts 15 = .ok (.bipush 11, 2) := by decide +kernel
theorem dX12_puts_17 : decode cX12_puts 17 = .ok (.invokevirtual 221, 3) := by decide +kernel
theorem dX12_puts_20 : decode cX12_puts 20 = .ok (.iadd, 1) := by decide +kernel
theorem dX12_puts_21 : decode cX12_puts 21 = .ok (.iload_n 1, 1) := by decide +kernel
theorem dX12_puts_22 : decode cX12_puts 22 = .ok (.iastore, 1) := by decide +kernel
theorem dX12_puts_23 : decode cX12_puts 23 = .ok (.aload_n 0, 1) := by decide +kernel
theorem dX12_puts_24 : decode cX12_puts 24 = .ok (.getfield 69, 3) := by decide +kernel
theorem dX12_puts_27 : decode cX12_puts 27 = .ok (.bipush 64, 2) := by decide +kernel
theorem dX12_puts_29 : decode cX12_puts 29 = .ok (.aload_n 0, 1) := by decide +kernel
theorem dX12_puts_30 : decode cX12_puts 30 = .ok (.bipush 11, 2) := by decide +kernel
theorem dX12_puts_32 : decode cX12_puts 32 = .ok (.invokevirtual 221, 3) := by decide +kernel
theorem dX12_puts_35 : decode cX12_puts 35 = .ok (.iadd, 1) := by decide +kernel
theorem dX12_puts_36 : decode cX12_puts 36 = .ok (.iload_n 2, 1) := by decide +kernel
theorem dX12_puts_37 : decode cX12_puts 37 = .ok (.iastore, 1) := by decide +kernel
theorem dX12_puts_38 : decode cX12_puts 38 = .ok (.aload_n 0, 1) := by decide +kernel
theorem dX12_puts_39 : decode cX12_puts 39 = .ok (.bipush 11, 2) := by decide +kernel
theorem dX12_puts_41 : decode cX12_puts 41 = .ok (.aload_n 0, 1) := by decide +kernel
theorem dX12_puts_42 : decode cX12_puts 42 = .ok (.bipush 11, 2) := by decide +kernel
theorem dX12_puts_44 : decode cX12_puts 44 = .ok (.invokevirtual 221, 3) := by decide +kernel
theorem dX12_puts_47 : decode cX12_puts 47 = .ok (.iconst 1, 1) := by decide +kernel
theorem dX12_puts_48 : decode cX12_puts 48 = .ok (.iadd, 1) := by decide +kernel
theorem dX12_puts_49 : decode cX12_puts 49 = .ok (.invokevirtual 240, 3) := by decide +kernel
theorem dX12_puts_52 : decode cX12_puts 52 = .ok (.return_, 1) := by decide +kernel
theorem dX12_knot_0 : decode cX12_knot 0 = .ok (.aload_n 0, 1) := by decide +kernel
theorem dX12_knot_1 : decode cX12_knot 1 = .ok (.getfield 205, 3) := by decide +kernel
theorem dX12_knot_4 : decode cX12_knot 4 = .ok (.ifCond .eq 4, 3) := by decide +kernel
theorem dX12_knot_7 : decode cX12_knot 7 = .ok (.return_, 1) := by decide +kernel
theorem dX12_knot_8 : decode cX12_knot 8 = .ok (.aload_n 0, 1) := by decide +kernel
theorem dX12_knot_9 : decode cX12_knot 9 = .ok (.getfield 283, 3) := by decide +kernel
theorem dX12_knot_12 : decode cX12_knot 12 = .ok (.bipush 64, 2) := by decide +kernel
theorem dX12_knot_14 : decode cX12_knot 14 = .ok (.if_icmp .ne 11, 3) := by decide +kernel
theorem dX12_knot_17 : decode cX12_knot 17 = .ok (.aload_n 0, 1) := by decide +kernel
theorem dX12_knot_18 : decode cX12_knot 18 = .ok (.iconst 2, 1) := by decide +kernel
theorem dX12_knot_19 : decode cX12_knot 19 = .ok (.invokevirtual 214, 3) := by decide +kernel
theorem dX12_knot_22 : decode cX12_knot 22 = .ok (.goto 13, 3) := by decide +kernel
theorem dX12_knot_25 : decode cX12_knot 25 = .ok (.aload_n 0, 1) := by decide +kernel
theorem dX12_knot_26 : decode cX12_knot 26 = .ok (.dup, 1) := by decide +kernel
theorem dX12_knot_27 : decode cX12_knot 27 = .ok (.getfield 283, 3) := by decide +kernel
theorem dX12_knot_30 : decode cX12_knot 30 = .ok (.iconst 1, 1) := by decide +kernel
theorem dX12_knot_31 : decode cX12_knot 31 = .ok (.iadd, 1) := by decide +kernel
theorem dX12_knot_32 : decode cX12_knot 32 = .ok (.putfield 283, 3) := by decide +kernel
theorem dX12_knot_35 : decode cX12_knot 35 = .ok (.return_, 1) := by decide +kernel
theorem dX12_expression_0 : decode cX12_expression 0 = .ok (.aload_n 0, 1) := by decide +kernel
theorem dX12_expression_1 : decode cX12_expression 1 = .ok (.invokevirtual 286, 3) := by decide +kernel
theorem dX12_expression_4 : decode cX12_expression 4 = .ok (.aload_n 0, 1) := by decide +kernel
theorem dX12_expression_5 : decode cX12_expression 5 = .ok (.bipush 15, 2) := by decide +kernel
theorem dX12_expression_7 : decode cX12_expression 7 = .ok (.invokevirtual 273, 3) := by decide +kernel
theorem dX12_expression_10 : decode cX12_expression 10 = .ok (.ifCond .eq 26, 3) := by decide +kernel
theorem dX12_expression_13 : decode cX12_expression 13 = .ok (.aload_n 0, 1) := by decide +kernel
theorem dX12_expression_14 : decode cX12_expression 14 = .ok (.invokevirtual 289, 3) := by decide +kernel
theorem dX12_expression_17 : decode cX12_expression 17 = .ok (.aload_n 0, 1) := by decide +kernel
theorem dX12_expression_18 : decode cX12_expression 18 = .ok (.invokevirtual 244, 3) := by decide +kernel
theorem dX12_expression_21 : decode cX12_expression 21 = .ok (.aload_n 0, 1) := by decide +kernel
theorem dX12_expression_22 : decode cX12_expression 22 = .ok (.invokevirtual 286, 3) := by decide +kernel
theorem dX12_expression_25 : decode cX12_expression 25 = .ok (.aload_n 0, 1) := by decide +kernel
theorem dX12_expression_26 : decode cX12_expression 26 = .ok (.iconst 2, 1) := by decide +kernel
theorem dX12_expression_27 : decode cX12_expression 27 = .ok (.sipush 262, 3) := by decide +kernel
theorem dX12_expression_30 : decode cX12_expression 30 = .ok (.invokevirtual 292, 3) := by decide +kernel
theorem dX12_expression_33 : decode cX12_expression 33 = .ok (.goto (-29), 3) := by decide +kernel
theorem dX12_expression_36 : decode cX12_expression 36 = .ok (.return_, 1) := by decide +kernel
theorem dX12_conjunction_0 : decode cX12_conjunction 0 = .ok (.aload_n 0, 1) := by decide +kernel
theorem dX12_conjunction_1 : decode cX12_conjunction 1 = .ok (.invokevirtual 295, 3) := by decide +kernel
theorem dX12_conjunction_4 : decode cX12_conjunction 4 = .ok (.aload_n 0, 1) := by decide +kernel
theorem dX12_conjunction_5 : decode cX12_conjunction 5 = .ok (.bipush 16, 2) := by decide +kernel
theorem dX12_conjunction_7 : decode cX12_conjunction 7 = .ok (.invokevirtual 273, 3) := by decide +kernel
theorem dX12_conjunction_10 : decode cX12_conjunction 10 = .ok (.ifCond .eq 26, 3) := by decide +kernel
theorem dX12_conjunction_13 : decode cX12_conjunction 13 = .ok (.aload_n 0, 1) := by decide +kernel
theorem dX12_conjunction_14 : decode cX12_conjunction 14 = .ok (.invokevirtual 289, 3) := by decide +kernel
theorem dX12_conjunction_17 : decode cX12_conjunction 17 = .ok (.aload_n 0, 1) := by decide +kernel
theorem dX12_conjunction_18 : decode cX12_conjunction 18 = .ok (.invokevirtual 244, 3) := by decide +kernel
theorem dX12_conjunction_21 : decode cX12_conjunction 21 = .ok (.aload_n 0, 1) := by decide +kernel
theorem dX12_conjunction_22 : decode cX12_conjunction 22 = .ok (.invokevirtual 295, 3) := by decide +kernel
theorem dX12_conjunction_25 : decode cX12_conjunction 25 = .ok (.aload_n 0, 1) := by decide +kernel
theorem dX12_conjunction_26 : decode cX12_conjunction 26 = .ok (.iconst 2, 1) := by decide +kernel
theorem dX12_conjunction_27 : decode cX12_conjunction 27 = .ok (.sipush 261, 3) := by decide +kernel
theorem dX12_conjunction_30 : decode cX12_conjunction 30 = .ok (.invokevirtual 292, 3) := by decide +kernel
theorem dX12_conjunction_33 : decode cX12_conjunction 33 = .ok (.goto (-29), 3) := by decide +kernel
theorem dX12_conjunction_36 : decode cX12_conjunction 36 = .ok (.return_, 1) := by decide +kernel
theorem dX12_negation_0 : decode cX12_negation 0 = .ok (.aload_n 0, 1) := by decide +kernel
theorem dX12_negation_1 : decode cX12_negation 1 = .ok (.bipush 17, 2) := by decide +kernel
theorem dX12_negation_3 : decode cX12_negation 3 = .ok (.invokevirtual 273, 3) := by decide +kernel
theorem dX12_negation_6 : decode cX12_negation 6 = .ok (.ifCond .eq 24, 3) := by decide +kernel
theorem dX12_negation_9 : decode cX12_negation 9 = .ok (.aload_n 0, 1) := by decide +kernel
theorem dX12_negation_10 : decode cX12_negation 10 = .ok (.invokevirtual 289, 3) := by decide +kernel
theorem dX12_negation_13 : decode cX12_negation 13 = .ok (.aload_n 0, 1) := by decide +kernel
theorem dX12_negation_14 : decode cX12_negation 14 = .ok (.invokevirtual 244, 3) := by decide +kernel
theorem dX12_negation_17 : decode cX12_negation 17 = .ok (.aload_n 0, 1) := by decide +kernel
theorem dX12_negation_18 : decode cX12_negation 18 = .ok (.invokevirtual 295, 3) := by decide +kernel
theorem dX12_negation_21 : decode cX12_negation 21 = .ok (.aload_n 0, 1) := by decide +kernel
theorem dX12_negation_22 : decode cX12_negation 22 = .ok (.iconst 2, 1) := by decide +kernel
theorem dX12_negation_23 : decode cX12_negation 23 = .ok (.sipush 260, 3) := by decide +kernel
theorem dX12_negation_26 : decode cX12_negation 26 = .ok (.invokevirtual 292, 3) := by decide +kernel
theorem dX12_negation_29 : decode cX12_negation 29 = .ok (.return_, 1) := by decide +kernel
theorem dX12_negation_30 : decode cX12_negation 30 = .ok (.aload_n 0, 1) := by decide +kernel
theorem dX12_negation_31 : decode cX12_negation 31 = .ok (.invokevirtual 298, 3) := by decide +kernel
theorem dX12_negation_34 : decode cX12_negation 34 = .ok (.aload_n 0, 1) := by decide +kernel
theorem dX12_negation_35 : decode cX12_negation 35 = .ok (.getfield 205, 3) := by decide +kernel
theorem dX12_negation_38 : decode cX12_negation 38 = .ok (.ifCond .ne 48, 3) := by decide +kernel
theorem dX12_negation_41 : decode cX12_negation 41 = .ok (.aload_n 0, 1) := by decide +kernel
theorem dX12_negation_42 : decode cX12_negation 42 = .ok (.getfield 172, 3) := by decide +kernel
theorem dX12_negation_45 : decode cX12_negation 45 = .ok (.iconst 3, 1) := by decide +kernel
theorem dX12_negation_46 : decode cX12_negation 46 = .ok (.if_icmp .ne 40, 3) := by decide +kernel
theorem dX12_negation_49 : decode cX12_negation 49 = .ok (.aload_n 0, 1) := by decide +kernel
theorem dX12_negation_50 : decode cX12_negation 50 = .ok (.getfield 182, 3) := by decide +kernel
theorem dX12_negation_53 : decode cX12_negation 53 = .ok (.bipush 60, 2) := by decide +kernel
theorem dX12_negation_55 : decode cX12_negation 55 = .ok (.if_icmp .eq 32, 3) := by decide +kernel
theorem dX12_negation_58 : decode cX12_negation 58 = .ok (.aload_n 0, 1) := by decide +kernel
theorem dX12_negation_59 : decode cX12_negation 59 = .ok (.getfield 182, 3) := by decide +kernel
theorem dX12_negation_62 : decode cX12_negation 62 = .ok (.bipush 62, 2) := by decide +kernel
theorem dX12_negation_64 : decode cX12_negation 64 = .ok (.if_icmp .eq 23, 3) := by decide +kernel
theorem dX12_negation_67 : decode cX12_negation 67 = .ok (.aload_n 0, 1) := by decide +kernel
theorem dX12_negation_68 : decode cX12_negation 68 = .ok (.getfield 182, 3) := by decide +kernel
theorem dX12_negation_71 : decode cX12_negation 71 = .ok (.bipush 61, 2) := by decide +kernel
theorem dX12_negation_73 : decode cX12_negation 73 = .ok (.if_icmp .eq 14, 3) := by decide +kernel
theorem dX12_negation_76 : decode cX12_negation 76 = .ok (.aload_n 0, 1) := by decide +kernel
theorem dX12_negation_77 : decode cX12_negation 77 = .ok (.getfield 182, 3) := by decide +kernel
theorem dX12_negation_80 : decode cX12_negation 80 = .ok (.sipush 256, 3) := by decide +kernel
theorem dX12_negation_83 : decode cX12_negation 83 = .ok (.if_icmp .ge 4, 3) := by decide +kernel
theorem dX12_negation_86 : decode cX12_negation 86 = .ok (.return_, 1) := by decide +kernel
theorem dX12_negation_87 : decode cX12_negation 87 = .ok (.aload_n 0, 1) := by decide +kernel
theorem dX12_negation_88 : decode cX12_negation 88 = .ok (.getfield 182, 3) := by decide +kernel
theorem dX12_negation_91 : decode cX12_negation 91 = .ok (.istore_n 1, 1) := by decide +kernel
theorem dX12_negation_92 : decode cX12_negation 92 = .ok (.aload_n 0, 1) := by decide +kernel
theorem dX12_negation_93 : decode cX12_negation 93 = .ok (.invokevirtual 289, 3) := by decide +kernel
theorem dX12_negation_96 : decode cX12_negation 96 = .ok (.aload_n 0, 1) := by decide +kernel
theorem dX12_negation_97 : decode cX12_negation 97 = .ok (.invokevirtual 244, 3) := by decide +kernel
theorem dX12_negation_100 : decode cX12_negation 100 = .ok (.aload_n 0, 1) := by decide +kernel
theorem dX12_negation_101 : decode cX12_negation 101 = .ok (.invokevirtual 298, 3) := by decide +kernel
theorem dX12_negation_104 : decode cX12_negation 104 = .ok (.aload_n 0, 1) := by decide +kernel
theorem dX12_negation_105 : decode cX12_negation 105 = .ok (.iconst 2, 1) := by decide +kernel
theorem dX12_negation_106 : decode cX12_negation 106 = .ok (.iload_n 1, 1) := by decide +kernel
theorem dX12_negation_107 : decode cX12_negation 107 = .ok (.invokevirtual 292, 3) := by decide +kernel
theorem dX12_negation_110 : decode cX12_negation 110 = .ok (.return_, 1) := by decide +kernel
theorem dX12_sum_0 : decode cX12_sum 0 = .ok (.aload_n 0, 1) := by decide +kernel
theorem dX12_sum_1 : decode cX12_sum 1 = .ok (.invokevirtual 301, 3) := by decide +kernel
theorem dX12_sum_4 : decode cX12_sum 4 = .ok (.aload_n 0, 1) := by decide +kernel
theorem dX12_sum_5 : decode cX12_sum 5 = .ok (.bipush 43, 2) := by decide +kernel
theorem dX12_sum_7 : decode cX12_sum 7 = .ok (.invokevirtual 263, 3) := by decide +kernel
theorem dX12_sum_10 : decode cX12_sum 10 = .ok (.ifCond .ne 12, 3) := by decide +kernel
theorem dX12_sum_13 : decode cX12_sum 13 = .ok (.aload_n 0, 1) := by decide +kernel
theorem dX12_sum_14 : decode cX12_sum 14 = .ok (.bipush 45, 2) := by decide +kernel
theorem dX12_sum_16 : decode cX12_sum 16 = .ok (.invokevirtual 263, 3) := by decide +kernel
theorem dX12_sum_19 : decode cX12_sum 19 = .ok (.ifCond .eq 29, 3) := by decide +kernel
theorem dX12_sum_22 : decode cX12_sum 22 = .ok (.aload_n 0, 1) := by decide +kernel
theorem dX12_sum_23 : decode cX12_sum 23 = .ok (.getfield 182, 3) := by decide +kernel
theorem dX12_sum_26 : decode cX12_sum 26 = .ok (.istore_n 1, 1) := by decide +kernel
theorem dX12_sum_27 : decode cX12_sum 27 = .ok (.aload_n 0, 1) := by decide +kernel
theorem dX12_sum_28 : decode cX12_sum 28 = .ok (.invokevirtual 289, 3) := by decide +kernel
theorem dX12_sum_31 : decode cX12_sum 31 = .ok (.aload_n 0, 1) := by decide +kernel
theorem dX12_sum_32 : decode cX12_sum 32 = .ok (.invokevirtual 244, 3) := by decide +kernel
theorem dX12_sum_35 : decode cX12_sum 35 = .ok (.aload_n 0, 1) := by decide +kernel
theorem dX12_sum_36 : decode cX12_sum 36 = .ok (.invokevirtual 301, 3) := by decide +kernel
theorem dX12_sum_39 : decode cX12_sum 39 = .ok (.aload_n 0, 1) := by decide +kernel
theorem dX12_sum_40 : decode cX12_sum 40 = .ok (.iconst 2, 1) := by decide +kernel
theorem dX12_sum_41 : decode cX12_sum 41 = .ok (.iload_n 1, 1) := by decide +kernel
theorem dX12_sum_42 : decode cX12_sum 42 = .ok (.invokevirtual 292, 3) := by decide +kernel
theorem dX12_sum_45 : decode cX12_sum 45 = .ok (.goto (-41), 3) := by decide +kernel
theorem dX12_sum_48 : decode cX12_sum 48 = .ok (.return_, 1) := by decide +kernel
theorem dX12_product_0 : decode cX12_product 0 = .ok (.aload_n 0, 1) := by decide +kernel
theorem dX12_product_1 : decode cX12_product 1 = .ok (.invokevirtual 304, 3) := by decide +kernel
theorem dX12_product_4 : decode cX12_product 4 = .ok (.aload_n 0, 1) := by decide +kernel
theorem dX12_product_5 : decode cX12_product 5 = .ok (.bipush 42, 2) := by decide +kernel
theorem dX12_product_7 : decode cX12_product 7 = .ok (.invokevirtual 263, 3) := by decide +kernel
theorem dX12_product_10 : decode cX12_product 10 = .ok (.ifCond .ne 12, 3) := by decide +kernel
theorem dX12_product_13 : decode cX12_product 13 = .ok (.aload_n 0, 1) := by decide +kernel
theorem dX12_product_14 : decode cX12_product 14 = .ok (.bipush 47, 2) := by decide +kernel
theorem dX12_product_16 : decode cX12_product 16 = .ok (.invokevirtual 263, 3) := by decide +kernel
theorem dX12_product_19 : decode cX12_product 19 = .ok (.ifCond .eq 29, 3) := by decide +kernel
theorem dX12_product_22 : decode cX12_product 22 = .ok (.aload_n 0, 1) := by decide +kernel
theorem dX12_product_23 : decode cX12_product 23 = .ok (.getfield 182, 3) := by decide +kernel
theorem dX12_product_26 : decode cX12_product 26 = .ok (.istore_n 1, 1) := by decide +kernel
theorem dX12_product_27 : decode cX12_product 27 = .ok (.aload_n 0, 1) := by decide +kernel
theorem dX12_product_28 : decode cX12_product 28 = .ok (.invokevirtual 289, 3) := by decide +kernel
theorem dX12_product_31 : decode cX12_product 31 = .ok (.aload_n 0, 1) := by decide +kernel
theorem dX12_product_32 : decode cX12_product 32 = .ok (.invokevirtual 244, 3) := by decide +kernel
theorem dX12_product_35 : decode cX12_product 35 = .ok (.aload_n 0, 1) := by decide +kernel
theorem dX12_product_36 : decode cX12_product 36 = .ok (.invokevirtual 304, 3) := by decide +kernel
theorem dX12_product_39 : decode cX12_product 39 = .ok (.aload_n 0, 1) := by decide +kernel
theorem dX12_product_40 : decode cX12_product 40 = .ok (.iconst 2, 1) := by decide +kernel
theorem dX12_product_41 : decode cX12_product 41 = .ok (.iload_n 1, 1) := by decide +kernel
theorem dX12_product_42 : decode cX12_product 42 = .ok (.invokevirtual 292, 3) := by decide +kernel
theorem dX12_product_45 : decode cX12_product 45 = .ok (.goto (-41), 3) := by decide +kernel
theorem dX12_product_48 : decode cX12_product 48 = .ok (.return_, 1) := by decide +kernel
theorem dX12_primary_0 : decode cX12_primary 0 = .ok (.aload_n 0, 1) := by decide +kernel
theorem dX12_primary_1 : decode cX12_primary 1 = .ok (.getfield 205, 3) := by decide +kernel
theorem dX12_primary_4 : decode cX12_primary 4 = .ok (.ifCond .eq 4, 3) := by decide +kernel
theorem dX12_primary_7 : decode cX12_primary 7 = .ok (.return_, 1) := by decide +kernel
theorem dX12_primary_8 : decode cX12_primary 8 = .ok (.aload_n 0, 1) := by decide +kernel
theorem dX12_primary_9 : decode cX12_primary 9 = .ok (.bipush 40, 2) := by decide +kernel
theorem dX12_primary_11 : decode cX12_primary 11 = .ok (.invokevirtual 263, 3) := by decide +kernel
theorem dX12_primary_14 : decode cX12_primary 14 = .ok (.ifCond .eq 87, 3) := by decide +kernel
theorem dX12_primary_17 : decode cX12_primary 17 = .ok (.aload_n 0, 1) := by decide +kernel
theorem dX12_primary_18 : decode cX12_primary 18 = .ok (.getfield 307, 3) := by decide +kernel
theorem dX12_primary_21 : decode cX12_primary 21 = .ok (.bipush 8, 2) := by decide +kernel
theorem dX12_primary_23 : decode cX12_primary 23 = .ok (.if_icmp .ne 8, 3) := by decide +kernel
theorem dX12_primary_26 : decode cX12_primary 26 = .ok (.aload_n 0, 1) := by decide +kernel
theorem dX12_primary_27 : decode cX12_primary 27 = .ok (.iconst 2, 1) := by decide +kernel
theorem dX12_primary_28 : decode cX12_primary 28 = .ok (.invokevirtual 214, 3) := by decide +kernel
theorem dX12_primary_31 : decode cX12_primary 31 = .ok (.aload_n 0, 1) := by decide +kernel
theorem dX12_primary_32 : decode cX12_primary 32 = .ok (.getfield 205, 3) := by decide +kernel
theorem dX12_primary_35 : decode cX12_primary 35 = .ok (.ifCond .eq 4, 3) := by decide +kernel
theorem dX12_primary_38 : decode cX12_primary 38 = .ok (.return_, 1) := by decide +kernel
theorem dX12_primary_39 : decode cX12_primary 39 = .ok (.aload_n 0, 1) := by decide +kernel
theorem dX12_primary_40 : decode cX12_primary 40 = .ok (.dup, 1) := by decide +kernel
theorem dX12_primary_41 : decode cX12_primary 41 = .ok (.getfield 307, 3) := by decide +kernel
theorem dX12_primary_44 : decode cX12_primary 44 = .ok (.iconst 1, 1) := by decide +kernel
theorem dX12_primary_45 : decode cX12_primary 45 = .ok (.iadd, 1) := by decide +kernel
theorem dX12_primary_46 : decode cX12_primary 46 = .ok (.putfield 307, 3) := by decide +kernel
theorem dX12_primary_49 : decode cX12_primary 49 = .ok (.aload_n 0, 1) := by decide +kernel
theorem dX12_primary_50 : decode cX12_primary 50 = .ok (.invokevirtual 211, 3) := by decide +kernel
theorem dX12_primary_53 : decode cX12_primary 53 = .ok (.aload_n 0, 1) := by decide +kernel
theorem dX12_primary_54 : decode cX12_primary 54 = .ok (.invokevirtual 280, 3) := by decide +kernel
theorem dX12_primary_57 : decode cX12_primary 57 = .ok (.aload_n 0, 1) := by decide +kernel
theorem dX12_primary_58 : decode cX12_primary 58 = .ok (.getfield 205, 3) := by decide +kernel
theorem dX12_primary_61 : decode cX12_primary 61 = .ok (.ifCond .ne 17, 3) := by decide +kernel
theorem dX12_primary_64 : decode cX12_primary 64 = .ok (.aload_n 0, 1) := by decide +kernel
theorem dX12_primary_65 : decode cX12_primary 65 = .ok (.bipush 41, 2) := by decide +kernel
theorem dX12_primary_67 : decode cX12_primary 67 = .ok (.invokevirtual 263, 3) := by decide +kernel
theorem dX12_primary_70 : decode cX12_primary 70 = .ok (.ifCond .ne 8, 3) := by decide +kernel
theorem dX12_primary_73 : decode cX12_primary 73 = .ok (.aload_n 0, 1) := by decide +kernel
theorem dX12_primary_74 : decode cX12_primary 74 = .ok (.iconst 1, 1) := by decide +kernel
theorem dX12_primary_75 : decode cX12_primary 75 = .ok (.invokevirtual 214, 3) := by decide +kernel
theorem dX12_primary_78 : decode cX12_primary 78 = .ok (.aload_n 0, 1) := by decide +kernel
theorem dX12_primary_79 : decode cX12_primary 79 = .ok (.getfield 205, 3) := by decide +kernel
theorem dX12_primary_82 : decode cX12_primary 82 = .ok (.ifCond .eq 4, 3) := by decide +kernel
theorem dX12_primary_85 : decode cX12_primary 85 = .ok (.return_, 1) := by decide +kernel
theorem dX12_primary_86 : decode cX12_primary 86 = .ok (.aload_n 0, 1) := by decide +kernel
theorem dX12_primary_87 : decode cX12_primary 87 = .ok (.dup, 1) := by decide +kernel
theorem dX12_primary_88 : decode cX12_primary 88 = .ok (.getfield 307, 3) := by decide +kernel
theorem dX12_primary_91 : decode cX12_primary 91 = .ok (.iconst 1, 1) := by decide +kernel
theorem dX12_primary_92 : decode cX12_primary 92 = .ok (.isub, 1) := by decide +kernel
theorem dX12_primary_93 : decode cX12_primary 93 = .ok (.putfield 307, 3) := by decide +kernel
theorem dX12_primary_96 : decode cX12_primary 96 = .ok (.aload_n 0, 1) := by decide +kernel
theorem dX12_primary_97 : decode cX12_primary 97 = .ok (.invokevirtual 211, 3) := by decide +kernel
theorem dX12_primary_100 : decode cX12_primary 100 = .ok (.return_, 1) := by decide +kernel
theorem dX12_primary_101 : decode cX12_primary 101 = .ok (.aload_n 0, 1) := by decide +kernel
theorem dX12_primary_102 : decode cX12_primary 102 = .ok (.getfield 172, 3) := by decide +kernel
theorem dX12_primary_105 : decode cX12_primary 105 = .ok (.iconst 2, 1) := by decide +kernel
theorem dX12_primary_106 : decode cX12_primary 106 = .ok (.if_icmp .ne 7, 3) := by decide +kernel
theorem dX12_primary_109 : decode cX12_primary 109 = .ok (.iconst 1, 1) := by decide +kernel
theorem dX12_primary_110 : decode cX12_primary 110 = .ok (.goto 4, 3) := by decide +kernel
theorem dX12_primary_113 : decode cX12_primary 113 = .ok (.iconst 0, 1) := by decide +kernel
theorem dX12_primary_114 : decode cX12_primary 114 = .ok (.istore_n 1, 1) := by decide +kernel
theorem dX12_primary_115 : decode cX12_primary 115 = .ok (.iload_n 1, 1) := by decide +kernel
theorem dX12_primary_116 : decode cX12_primary 116 = .ok (.ifCond .eq 21, 3) := by decide +kernel
theorem dX12_primary_119 : decode cX12_primary 119 = .ok (.aload_n 0, 1) := by decide +kernel
theorem dX12_primary_120 : decode cX12_primary 120 = .ok (.getfield 182, 3) := by decide +kernel
theorem dX12_primary_123 : decode cX12_primary 123 = .ok (.sipush 9999, 3) := by decide +kernel
theorem dX12_primary_126 : decode cX12_primary 126 = .ok (.if_icmp .le 11, 3) := by decide +kernel
theorem dX12_primary_129 : decode cX12_primary 129 = .ok (.aload_n 0, 1) := by decide +kernel
theorem dX12_primary_130 : decode cX12_primary 130 = .ok (.iconst 2, 1) := by decide +kernel
theorem dX12_primary_131 : decode cX12_primary 131 = .ok (.invokevirtual 214, 3) := by decide +kernel
theorem dX12_primary_134 : decode cX12_primary 134 = .ok (.goto 28, 3) := by decide +kernel
theorem dX12_primary_137 : decode cX12_primary 137 = .ok (.iload_n 1, 1) := by decide +kernel
theorem dX12_primary_138 : decode cX12_primary 138 = .ok (.ifCond .ne 24, 3) := by decide +kernel
theorem dX12_primary_141 : decode cX12_primary 141 = .ok (.aload_n 0, 1) := by decide +kernel
theorem dX12_primary_142 : decode cX12_primary 142 = .ok (.getfield 172, 3) := by decide +kernel
theorem dX12_primary_145 : decode cX12_primary 145 = .ok (.ifCond .ne 12, 3) := by decide +kernel
theorem dX12_primary_148 : decode cX12_primary 148 = .ok (.aload_n 0, 1) := by decide +kernel
theorem dX12_primary_149 : decode cX12_primary 149 = .ok (.getfield 182, 3) := by decide +kernel
theorem dX12_primary_152 : decode cX12_primary 152 = .ok (.bipush 18, 2) := by decide +kernel
theorem dX12_primary_154 : decode cX12_primary 154 = .ok (.if_icmp .ge 8, 3) := by decide +kernel
theorem dX12_primary_157 : decode cX12_primary 157 = .ok (.aload_n 0, 1) := by decide +kernel
theorem dX12_primary_158 : decode cX12_primary 158 = .ok (.iconst 1, 1) := by decide +kernel
theorem dX12_primary_159 : decode cX12_primary 159 = .ok (.invokevirtual 214, 3) := by decide +kernel
theorem dX12_primary_162 : decode cX12_primary 162 = .ok (.aload_n 0, 1) := by decide +kernel
theorem dX12_primary_163 : decode cX12_primary 163 = .ok (.invokevirtual 289, 3) := by decide +kernel
theorem dX12_primary_166 : decode cX12_primary 166 = .ok (.aload_n 0, 1) := by decide +kernel
theorem dX12_primary_167 : decode cX12_primary 167 = .ok (.iload_n 1, 1) := by decide +kernel
theorem dX12_primary_168 : decode cX12_primary 168 = .ok (.ifCond .eq 7, 3) := by decide +kernel
theorem dX12_primary_171 : decode cX12_primary 171 = .ok (.iconst 0, 1) := by decide +kernel
theorem dX12_primary_172 : decode cX12_primary 172 = .ok (.goto 4, 3) := by decide +kernel
theorem dX12_primary_175 : decode cX12_primary 175 = .ok (.iconst 1, 1) := by decide +kernel
theorem dX12_primary_176 : decode cX12_primary 176 = .ok (.iload_n 1, 1) := by decide +kernel
theorem dX12_primary_177 : decode cX12_primary 177 = .ok (.ifCond .eq 10, 3) := by decide +kernel
theorem dX12_primary_180 : decode cX12_primary 180 = .ok (.aload_n 0, 1) := by decide +kernel
theorem dX12_primary_181 : decode cX12_primary 181 = .ok (.getfield 182, 3) := by decide +kernel
theorem dX12_primary_184 : decode cX12_primary 184 = .ok (.goto 10, 3) := by decide +kernel
theorem dX12_primary_187 : decode cX12_primary 187 = .ok (.aload_n 0, 1) := by decide +kernel
theorem dX12_primary_188 : decode cX12_primary 188 = .ok (.getfield 182, 3) := by decide +kernel
theorem dX12_primary_191 : decode cX12_primary 191 = .ok (.bipush 18, 2) := by decide +kernel
theorem dX12_primary_193 : decode cX12_primary 193 = .ok (.isub, 1) := by decide +kernel
theorem dX12_primary_194 : decode cX12_primary 194 = .ok (.invokevirtual 292, 3) := by decide +kernel
theorem dX12_primary_197 : decode cX12_primary 197 = .ok (.aload_n 0, 1) := by decide +kernel
theorem dX12_primary_198 : decode cX12_primary 198 = .ok (.invokevirtual 244, 3) := by decide +kernel
theorem dX12_primary_201 : decode cX12_primary 201 = .ok (.return_, 1) := by decide +kernel
theorem dX12_half_0 : decode cX12_half 0 = .ok (.aload_n 0, 1) := by decide +kernel
theorem dX12_half_1 : decode cX12_half 1 = .ok (.arraylength, 1) := by decide +kernel
theorem dX12_half_2 : decode cX12_half 2 = .ok (.iconst 2, 1) := by decide +kernel
theorem dX12_half_3 : decode cX12_half 3 = .ok (.idiv, 1) := by decide +kernel
theorem dX12_half_4 : decode cX12_half 4 = .ok (.istore_n 1, 1) := by decide +kernel
theorem dX12_half_5 : decode cX12_half 5 = .ok (.iconst 0, 1) := by decide +kernel
theorem dX12_half_6 : decode cX12_half 6 = .ok (.istore_n 2, 1) := by decide +kernel
theorem dX12_half_7 : decode cX12_half 7 = .ok (.iload_n 2, 1) := by decide +kernel
theorem dX12_half_8 : decode cX12_half 8 = .ok (.iload_n 1, 1) := by decide +kernel
theorem dX12_half_9 : decode cX12_half 9 = .ok (.if_icmp .ge 17, 3) := by decide +kernel
theorem dX12_half_12 : decode cX12_half 12 = .ok (.aload_n 0, 1) := by decide +kernel
theorem dX12_half_13 : decode cX12_half 13 = .ok (.iload_n 2, 1) := by decide +kernel
theorem dX12_half_14 : decode cX12_half 14 = .ok (.aload_n 0, 1) := by decide +kernel
theorem dX12_half_15 : decode cX12_half 15 = .ok (.iload_n 1, 1) := by decide +kernel
theorem dX12_half_16 : decode cX12_half 16 = .ok (.iload_n 2, 1) := by decide +kernel
theorem dX12_half_17 : decode cX12_half 17 = .ok (.iadd, 1) := by decide +kernel
theorem dX12_half_18 : decode cX12_half 18 = .ok (.iaload, 1) := by decide +kernel
theorem dX12_half_19 : decode cX12_half 19 = .ok (.iastore, 1) := by decide +kernel
theorem dX12_half_20 : decode cX12_half 20 = .ok (.iinc 2 1, 3) := by decide +kernel
theorem dX12_half_23 : decode cX12_half 23 = .ok (.goto (-16), 3) := by decide +kernel
theorem dX12_half_26 : decode cX12_half 26 = .ok (.return_, 1) := by decide +kernel
theorem dX12_text_0 : decode cX12_text 0 = .ok (.aload_n 0, 1) := by decide +kernel
theorem dX12_text_1 : decode cX12_text 1 = .ok (.iconst 0, 1) := by decide +kernel
theorem dX12_text_2 : decode cX12_text 2 = .ok (.putfield 153, 3) := by decide +kernel
theorem dX12_text_5 : decode cX12_text 5 = .ok (.iload_n 1, 1) := by decide +kernel
theorem dX12_text_6 : decode cX12_text 6 = .ok (.ifCond .lt 11, 3) := by decide +kernel
theorem dX12_text_9 : decode cX12_text 9 = .ok (.iload_n 1, 1) := by decide +kernel
theorem dX12_text_10 : decode cX12_text 10 = .ok (.aload_n 0, 1) := by decide +kernel
theorem dX12_text_11 : decode cX12_text 11 = .ok (.getfield 156, 3) := by decide +kernel
theorem dX12_text_14 : decode cX12_text 14 = .ok (.if_icmp .le 6, 3) := by decide +kernel
theorem dX12_text_17 : decode cX12_text 17 = .ok (.bipush (-2), 2) := by decide +kernel
theorem dX12_text_19 : decode cX12_text 19 = .ok (.ireturn, 1) := by decide +kernel
theorem dX12_text_20 : decode cX12_text 20 = .ok (.aload_n 0, 1) := by decide +kernel
theorem dX12_text_21 : decode cX12_text 21 = .ok (.iload_n 1, 1) := by decide +kernel
theorem dX12_text_22 : decode cX12_text 22 = .ok (.putfield 162, 3) := by decide +kernel
theorem dX12_text_25 : decode cX12_text 25 = .ok (.aload_n 0, 1) := by decide +kernel
theorem dX12_text_26 : decode cX12_text 26 = .ok (.iconst 0, 1) := by decide +kernel
theorem dX12_text_27 : decode cX12_text 27 = .ok (.putfield 156, 3) := by decide +kernel
theorem dX12_text_30 : decode cX12_text 30 = .ok (.aload_n 0, 1) := by decide +kernel
theorem dX12_text_31 : decode cX12_text 31 = .ok (.iconst 0, 1) := by decide +kernel
theorem dX12_text_32 : decode cX12_text 32 = .ok (.putfield 159, 3) := by decide +kernel
theorem dX12_text_35 : decode cX12_text 35 = .ok (.aload_n 0, 1) := by decide +kernel
theorem dX12_text_36 : decode cX12_text 36 = .ok (.iconst 0, 1) := by decide +kernel
theorem dX12_text_37 : decode cX12_text 37 = .ok (.putfield 205, 3) := by decide +kernel
theorem dX12_text_40 : decode cX12_text 40 = .ok (.aload_n 0, 1) := by decide +kernel
theorem dX12_text_41 : decode cX12_text 41 = .ok (.iconst (-1), 1) := by decide +kernel
theorem dX12_text_42 : decode cX12_text 42 = .ok (.putfield 208, 3) := by decide +kernel
theorem dX12_text_45 : decode cX12_text 45 = .ok (.iconst 0, 1) := by decide +kernel
theorem dX12_text_46 : decode cX12_text 46 = .ok (.istore_n 2, 1) := by decide +kernel
theorem dX12_text_47 : decode cX12_text 47 = .ok (.iload_n 2, 1) := by decide +kernel
theorem dX12_text_48 : decode cX12_text 48 = .ok (.bipush 12, 2) := by decide +kernel
theorem dX12_text_50 : decode cX12_text 50 = .ok (.if_icmp .ge 77, 3) := by decide +kernel
theorem dX12_text_53 : decode cX12_text 53 = .ok (.aload_n 0, 1) := by decide +kernel
theorem dX12_text_54 : decode cX12_text 54 = .ok (.iload_n 2, 1) := by decide +kernel
theorem dX12_text_55 : decode cX12_text 55 = .ok (.iload_n 2, 1) := by decide +kernel
theorem dX12_text_56 : decode cX12_text 56 = .ok (.iconst 4, 1) := by decide +kernel
theorem dX12_text_57 : decode cX12_text 57 = .ok (.if_icmp .eq 8, 3) := by decide +kernel
theorem dX12_text_60 : decode cX12_text 60 = .ok (.iload_n 2, 1) := by decide +kernel
theorem dX12_text_61 : decode cX12_text 61 = .ok (.iconst 5, 1) := by decide +kernel
theorem dX12_text_62 : decode cX12_text 62 = .ok (.if_icmp .ne 7, 3) := by decide +kernel
theorem dX12_text_65 : decode cX12_text 65 = .ok (.iconst (-1), 1) := by decide +kernel
theorem dX12_text_66 : decode cX12_text 66 = .ok (.goto 52, 3) := by decide +kernel
theorem dX12_text_69 : decode cX12_text 69 = .ok (.iload_n 2, 1) := by decide +kernel
theorem dX12_text_70 : decode cX12_text 70 = .ok (.bipush 6, 2) := by decide +kernel
theorem dX12_text_72 : decode cX12_text 72 = .ok (.if_icmp .eq 9, 3) := by decide +kernel
theorem dX12_text_75 : decode cX12_text 75 = .ok (.iload_n 2, 1) := by decide +kernel
theorem dX12_text_76 : decode cX12_text 76 = .ok (.bipush 10, 2) := by decide +kernel
theorem dX12_text_78 : decode cX12_text 78 = .ok (.if_icmp .ne 7, 3) := by decide +kernel
theorem dX12_text_81 : decode cX12_text 81 = .ok (.iconst 1, 1) := by decide +kernel
theorem dX12_text_82 : decode cX12_text 82 = .ok (.goto 36, 3) := by decide +kernel
theorem dX12_text_85 : decode cX12_text 85 = .ok (.iload_n 2, 1) := by decide +kernel
theorem dX12_text_86 : decode cX12_text 86 = .ok (.bipush 7, 2) := by decide +kernel
theorem dX12_text_88 : decode cX12_text 88 = .ok (.if_icmp .ne 8, 3) := by decide +kernel
theorem dX12_text_91 : decode cX12_text 91 = .ok (.bipush 9, 2) := by decide +kernel
theorem dX12_text_93 : decode cX12_text 93 = .ok (.goto 25, 3) := by decide +kernel
theorem dX12_text_96 : decode cX12_text 96 = .ok (.iload_n 2, 1) := by decide +kernel
theorem dX12_text_97 : decode cX12_text 97 = .ok (.bipush 8, 2) := by decide +kernel
theorem dX12_text_99 : decode cX12_text 99 = .ok (.if_icmp .ne 7, 3) := by decide +kernel
theorem dX12_text_102 : decode cX12_text 102 = .ok (.iconst 2, 1) := by decide +kernel
theorem dX12_text_103 : decode cX12_text 103 = .ok (.goto 15, 3) := by decide +kernel
theorem dX12_text_106 : decode cX12_text 106 = .ok (.iload_n 2, 1) := by decide +kernel
theorem dX12_text_107 : decode cX12_text 107 = .ok (.bipush 9, 2) := by decide +kernel
theorem dX12_text_109 : decode cX12_text 109 = .ok (.if_icmp .ne 8, 3) := by decide +kernel
theorem dX12_text_112 : decode cX12_text 112 = .ok (.bipush 8, 2) := by decide +kernel
theorem dX12_text_114 : decode cX12_text 114 = .ok (.goto 4, 3) := by decide +kernel
theorem dX12_text_117 : decode cX12_text 117 = .ok (.iconst 0, 1) := by decide +kernel
theorem dX12_text_118 : decode cX12_text 118 = .ok (.invokevirtual 240, 3) := by decide +kernel
theorem dX12_text_121 : decode cX12_text 121 = .ok (.iinc 2 1, 3) := by decide +kernel
theorem dX12_text_124 : decode cX12_text 124 = .ok (.goto (-77), 3) := by decide +kernel
theorem dX12_text_127 : decode cX12_text 127 = .ok (.iconst 3, 1) := by decide +kernel
theorem dX12_text_128 : decode cX12_text 128 = .ok (.istore_n 2, 1) := by decide +kernel
theorem dX12_text_129 : decode cX12_text 129 = .ok (.iload_n 2, 1) := by decide +kernel
theorem dX12_text_130 : decode cX12_text 130 = .ok (.bipush 6, 2) := by decide +kernel
theorem dX12_text_132 : decode cX12_text 132 = .ok (.if_icmp .ge 23, 3) := by decide +kernel
theorem dX12_text_135 : decode cX12_text 135 = .ok (.aload_n 0, 1) := by decide +kernel
theorem dX12_text_136 : decode cX12_text 136 = .ok (.getfield 60, 3) := by decide +kernel
theorem dX12_text_139 : decode cX12_text 139 = .ok (.iload_n 2, 1) := by decide +kernel
theorem dX12_text_140 : decode cX12_text 140 = .ok (.iconst 0, 1) := by decide +kernel
theorem dX12_text_141 : decode cX12_text 141 = .ok (.iastore, 1) := by decide +kernel
theorem dX12_text_142 : decode cX12_text 142 = .ok (.aload_n 0, 1) := by decide +kernel
theorem dX12_text_143 : decode cX12_text 143 = .ok (.getfield 63, 3) := by decide +kernel
theorem dX12_text_146 : decode cX12_text 146 = .ok (.iload_n 2, 1) := by decide +kernel
theorem dX12_text_147 : decode cX12_text 147 = .ok (.iconst 0, 1) := by decide +kernel
theorem dX12_text_148 : decode cX12_text 148 = .ok (.iastore, 1) := by decide +kernel
theorem dX12_text_149 : decode cX12_text 149 = .ok (.iinc 2 1, 3) := by decide +kernel
theorem dX12_text_152 : decode cX12_text 152 = .ok (.goto (-23), 3) := by decide +kernel
theorem dX12_text_155 : decode cX12_text 155 = .ok (.aload_n 0, 1) := by decide +kernel
theorem dX12_text_156 : decode cX12_text 156 = .ok (.iconst 0, 1) := by decide +kernel
theorem dX12_text_157 : decode cX12_text 157 = .ok (.putfield 231, 3) := by decide +kernel
theorem dX12_text_160 : decode cX12_text 160 = .ok (.aload_n 0, 1) := by decide +kernel
theorem dX12_text_161 : decode cX12_text 161 = .ok (.iconst 0, 1) := by decide +kernel
theorem dX12_text_162 : decode cX12_text 162 = .ok (.putfield 266, 3) := by decide +kernel
theorem dX12_text_165 : decode cX12_text 165 = .ok (.aload_n 0, 1) := by decide +kernel
theorem dX12_text_166 : decode cX12_text 166 = .ok (.iconst 0, 1) := by decide +kernel
theorem dX12_text_167 : decode cX12_text 167 = .ok (.putfield 307, 3) := by decide +kernel
theorem dX12_text_170 : decode cX12_text 170 = .ok (.aload_n 0, 1) := by decide +kernel
theorem dX12_text_171 : decode cX12_text 171 = .ok (.iconst 0, 1) := by decide +kernel
theorem dX12_text_172 : decode cX12_text 172 = .ok (.putfield 283, 3) := by decide +kernel
theorem dX12_text_175 : decode cX12_text 175 = .ok (.aload_n 0, 1) := by decide +kernel
theorem dX12_text_176 : decode cX12_text 176 = .ok (.invokevirtual 211, 3) := by decide +kernel
theorem dX12_text_179 : decode cX12_text 179 = .ok (.aload_n 0, 1) := by decide +kernel
theorem dX12_text_180 : decode cX12_text 180 = .ok (.getfield 205, 3) := by decide +kernel
theorem dX12_text_183 : decode cX12_text 183 = .ok (.ifCond .ne 18, 3) := by decide +kernel
theorem dX12_text_186 : decode cX12_text 186 = .ok (.aload_n 0, 1) := by decide +kernel
theorem dX12_text_187 : decode cX12_text 187 = .ok (.getfield 172, 3) := by decide +kernel
theorem dX12_text_190 : decode cX12_text 190 = .ok (.iconst 4, 1) := by decide +kernel
theorem dX12_text_191 : decode cX12_text 191 = .ok (.if_icmp .eq 10, 3) := by decide +kernel
theorem dX12_text_194 : decode cX12_text 194 = .ok (.aload_n 0, 1) := by decide +kernel
theorem dX12_text_195 : decode cX12_text 195 = .ok (.invokevirtual 310, 3) := by decide +kernel
theorem dX12_text_198 : decode cX12_text 198 = .ok (.goto (-19), 3) := by decide +kernel
theorem dX12_text_201 : decode cX12_text 201 = .ok (.aload_n 0, 1) := by decide +kernel
theorem dX12_text_202 : decode cX12_text 202 = .ok (.aload_n 0, 1) := by decide +kernel
theorem dX12_text_203 : decode cX12_text 203 = .ok (.getfield 205, 3) := by decide +kernel
theorem dX12_text_206 : decode cX12_text 206 = .ok (.putfield 313, 3) := by decide +kernel
theorem dX12_text_209 : decode cX12_text 209 = .ok (.aload_n 0, 1) := by decide +kernel
theorem dX12_text_210 : decode cX12_text 210 = .ok (.aload_n 0, 1) := by decide +kernel
theorem dX12_text_211 : decode cX12_text 211 = .ok (.getfield 208, 3) := by decide +kernel
theorem dX12_text_214 : decode cX12_text 214 = .ok (.putfield 72, 3) := by decide +kernel
theorem dX12_text_217 : decode cX12_text 217 = .ok (.aload_n 0, 1) := by decide +kernel
theorem dX12_text_218 : decode cX12_text 218 = .ok (.getfield 205, 3) := by decide +kernel
theorem dX12_text_221 : decode cX12_text 221 = .ok (.ifCond .eq 5, 3) := by decide +kernel
theorem dX12_text_224 : decode cX12_text 224 = .ok (.iconst (-1), 1) := by decide +kernel
theorem dX12_text_225 : decode cX12_text 225 = .ok (.ireturn, 1) := by decide +kernel
theorem dX12_text_226 : decode cX12_text 226 = .ok (.aload_n 0, 1) := by decide +kernel
theorem dX12_text_227 : decode cX12_text 227 = .ok (.getfield 15, 3) := by decide +kernel
theorem dX12_text_230 : decode cX12_text 230 = .ok (.invokestatic 316, 3) := by decide +kernel
theorem dX12_text_233 : decode cX12_text 233 = .ok (.aload_n 0, 1) := by decide +kernel
theorem dX12_text_234 : decode cX12_text 234 = .ok (.getfield 18, 3) := by decide +kernel
theorem dX12_text_237 : decode cX12_text 237 = .ok (.invokestatic 316, 3) := by decide +kernel
theorem dX12_text_240 : decode cX12_text 240 = .ok (.aload_n 0, 1) := by decide +kernel
theorem dX12_text_241 : decode cX12_text 241 = .ok (.getfield 21, 3) := by decide +kernel
theorem dX12_text_244 : decode cX12_text 244 = .ok (.invokestatic 316, 3) := by decide +kernel
theorem dX12_text_247 : decode cX12_text 247 = .ok (.aload_n 0, 1) := by decide +kernel
theorem dX12_text_248 : decode cX12_text 248 = .ok (.getfield 24, 3) := by decide +kernel
theorem dX12_text_251 : decode cX12_text 251 = .ok (.invokestatic 316, 3) := by decide +kernel
theorem dX12_text_254 : decode cX12_text 254 = .ok (.aload_n 0, 1) := by decide +kernel
theorem dX12_text_255 : decode cX12_text 255 = .ok (.getfield 27, 3) := by decide +kernel
theorem dX12_text_258 : decode cX12_text 258 = .ok (.invokestatic 316, 3) := by decide +kernel
theorem dX12_text_261 : decode cX12_text 261 = .ok (.aload_n 0, 1) := by decide +kernel
theorem dX12_text_262 : decode cX12_text 262 = .ok (.getfield 30, 3) := by decide +kernel
theorem dX12_text_265 : decode cX12_text 265 = .ok (.invokestatic 316, 3) := by decide +kernel
theorem dX12_text_268 : decode cX12_text 268 = .ok (.aload_n 0, 1) := by decide +kernel
theorem dX12_text_269 : decode cX12_text 269 = .ok (.getfield 33, 3) := by decide +kernel
theorem dX12_text_272 : decode cX12_text 272 = .ok (.invokestatic 316, 3) := by decide +kernel
theorem dX12_text_275 : decode cX12_text 275 = .ok (.aload_n 0, 1) := by decide +kernel
theorem dX12_text_276 : decode cX12_text 276 = .ok (.getfield 36, 3) := by decide +kernel
theorem dX12_text_279 : decode cX12_text 279 = .ok (.invokestatic 316, 3) := by decide +kernel
theorem dX12_text_282 : decode cX12_text 282 = .ok (.aload_n 0, 1) := by decide +kernel
theorem dX12_text_283 : decode cX12_text 283 = .ok (.getfield 39, 3) := by decide +kernel
theorem dX12_text_286 : decode cX12_text 286 = .ok (.invokestatic 316, 3) := by decide +kernel
theorem dX12_text_289 : decode cX12_text 289 = .ok (.aload_n 0, 1) := by decide +kernel
theorem dX12_text_290 : decode cX12_text 290 = .ok (.getfield 42, 3) := by decide +kernel
theorem dX12_text_293 : decode cX12_text 293 = .ok (.invokestatic 316, 3) := by decide +kernel
theorem dX12_text_296 : decode cX12_text 296 = .ok (.aload_n 0, 1) := by decide +kernel
theorem dX12_text_297 : decode cX12_text 297 = .ok (.getfield 45, 3) := by decide +kernel
theorem dX12_text_300 : decode cX12_text 300 = .ok (.invokestatic 316, 3) := by decide +kernel
theorem dX12_text_303 : decode cX12_text 303 = .ok (.aload_n 0, 1) := by decide +kernel
theorem dX12_text_304 : decode cX12_text 304 = .ok (.getfield 48, 3) := by decide +kernel
theorem dX12_text_307 : decode cX12_text 307 = .ok (.invokestatic 316, 3) := by decide +kernel
theorem dX12_text_310 : decode cX12_text 310 = .ok (.aload_n 0, 1) := by decide +kernel
theorem dX12_text_311 : decode cX12_text 311 = .ok (.getfield 51, 3) := by decide +kernel
theorem dX12_text_314 : decode cX12_text 314 = .ok (.invokestatic 316, 3) := by decide +kernel
theorem dX12_text_317 : decode cX12_text 317 = .ok (.aload_n 0, 1) := by decide +kernel
theorem dX12_text_318 : decode cX12_text 318 = .ok (.getfield 54, 3) := by decide +kernel
theorem dX12_text_321 : decode cX12_text 321 = .ok (.invokestatic 316, 3) := by decide +kernel
theorem dX12_text_324 : decode cX12_text 324 = .ok (.aload_n 0, 1) := by decide +kernel
theorem dX12_text_325 : decode cX12_text 325 = .ok (.getfield 57, 3) := by decide +kernel
theorem dX12_text_328 : decode cX12_text 328 = .ok (.invokestatic 316, 3) := by decide +kernel
theorem dX12_text_331 : decode cX12_text 331 = .ok (.aload_n 0, 1) := by decide +kernel
theorem dX12_text_332 : decode cX12_text 332 = .ok (.getfield 60, 3) := by decide +kernel
theorem dX12_text_335 : decode cX12_text 335 = .ok (.invokestatic 316, 3) := by decide +kernel
theorem dX12_text_338 : decode cX12_text 338 = .ok (.aload_n 0, 1) := by decide +kernel
theorem dX12_text_339 : decode cX12_text 339 = .ok (.getfield 63, 3) := by decide +kernel
theorem dX12_text_342 : decode cX12_text 342 = .ok (.invokestatic 316, 3) := by decide +kernel
theorem dX12_text_345 : decode cX12_text 345 = .ok (.aload_n 0, 1) := by decide +kernel
theorem dX12_text_346 : decode cX12_text 346 = .ok (.getfield 66, 3) := by decide +kernel
theorem dX12_text_349 : decode cX12_text 349 = .ok (.invokestatic 316, 3) := by decide +kernel
theorem dX12_text_352 : decode cX12_text 352 = .ok (.aload_n 0, 1) := by decide +kernel
theorem dX12_text_353 : decode cX12_text 353 = .ok (.getfield 69, 3) := by decide +kernel
theorem dX12_text_356 : decode cX12_text 356 = .ok (.invokestatic 316, 3) := by decide +kernel
theorem dX12_text_359 : decode cX12_text 359 = .ok (.iconst 0, 1) := by decide +kernel
theorem dX12_text_360 : decode cX12_text 360 = .ok (.istore_n 2, 1) := by decide +kernel
theorem dX12_text_361 : decode cX12_text 361 = .ok (.iload_n 2, 1) := by decide +kernel
theorem dX12_text_362 : decode cX12_text 362 = .ok (.bipush 7, 2) := by decide +kernel
theorem dX12_text_364 : decode cX12_text 364 = .ok (.if_icmp .ge 16, 3) := by decide +kernel
theorem dX12_text_367 : decode cX12_text 367 = .ok (.aload_n 0, 1) := by decide +kernel
theorem dX12_text_368 : decode cX12_text 368 = .ok (.getfield 83, 3) := by decide +kernel
theorem dX12_text_371 : decode cX12_text 371 = .ok (.iload_n 2, 1) := by decide +kernel
theorem dX12_text_372 : decode cX12_text 372 = .ok (.iconst (-1), 1) := by decide +kernel
theorem dX12_text_373 : decode cX12_text 373 = .ok (.iastore, 1) := by decide +kernel
theorem dX12_text_374 : decode cX12_text 374 = .ok (.iinc 2 1, 3) := by decide +kernel
theorem dX12_text_377 : decode cX12_text 377 = .ok (.goto (-16), 3) := by decide +kernel
theorem dX12_text_380 : decode cX12_text 380 = .ok (.aload_n 0, 1) := by decide +kernel
theorem dX12_text_381 : decode cX12_text 381 = .ok (.iconst 0, 1) := by decide +kernel
theorem dX12_text_382 : decode cX12_text 382 = .ok (.putfield 320, 3) := by decide +kernel
theorem dX12_text_385 : decode cX12_text 385 = .ok (.aload_n 0, 1) := by decide +kernel
theorem dX12_text_386 : decode cX12_text 386 = .ok (.iconst 0, 1) := by decide +kernel
theorem dX12_text_387 : decode cX12_text 387 = .ok (.putfield 323, 3) := by decide +kernel
theorem dX12_text_390 : decode cX12_text 390 = .ok (.aload_n 0, 1) := by decide +kernel
theorem dX12_text_391 : decode cX12_text 391 = .ok (.getfield 266, 3) := by decide +kernel
theorem dX12_text_394 : decode cX12_text 394 = .ok (.ireturn, 1) := by decide +kernel
theorem dX12_fault_0 : decode cX12_fault 0 = .ok (.aload_n 0, 1) := by decide +kernel
theorem dX12_fault_1 : decode cX12_fault 1 = .ok (.iconst 0, 1) := by decide +kernel
theorem dX12_fault_2 : decode cX12_fault 2 = .ok (.putfield 153, 3) := by decide +kernel
theorem dX12_fault_5 : decode cX12_fault 5 = .ok (.iload_n 1, 1) := by decide +kernel
theorem dX12_fault_6 : decode cX12_fault 6 = .ok (.ifCond .ne 10, 3) := by decide +kernel
theorem dX12_fault_9 : decode cX12_fault 9 = .ok (.aload_n 0, 1) := by decide +kernel
theorem dX12_fault_10 : decode cX12_fault 10 = .ok (.getfield 313, 3) := by decide +kernel
theorem dX12_fault_13 : decode cX12_fault 13 = .ok (.goto 16, 3) := by decide +kernel
theorem dX12_fault_16 : decode cX12_fault 16 = .ok (.iload_n 1, 1) := by decide +kernel
theorem dX12_fault_17 : decode cX12_fault 17 = .ok (.iconst 1, 1) := by decide +kernel
theorem dX12_fault_18 : decode cX12_fault 18 = .ok (.if_icmp .ne 10, 3) := by decide +kernel
theorem dX12_fault_21 : decode cX12_fault 21 = .ok (.aload_n 0, 1) := by decide +kernel
theorem dX12_fault_22 : decode cX12_fault 22 = .ok (.getfield 72, 3) := by decide +kernel
theorem dX12_fault_25 : decode cX12_fault 25 = .ok (.goto 4, 3) := by decide +kernel
theorem dX12_fault_28 : decode cX12_fault 28 = .ok (.iconst (-1), 1) := by decide +kernel
theorem dX12_fault_29 : decode cX12_fault 29 = .ok (.ireturn, 1) := by decide +kernel
theorem dX12_named_0 : decode cX12_named 0 = .ok (.aload_n 0, 1) := by decide +kernel
theorem dX12_named_1 : decode cX12_named 1 = .ok (.iconst 0, 1) := by decide +kernel
theorem dX12_named_2 : decode cX12_named 2 = .ok (.putfield 153, 3) := by decide +kernel
theorem dX12_named_5 : decode cX12_named 5 = .ok (.iload_n 1, 1) := by decide +kernel
theorem dX12_named_6 : decode cX12_named 6 = .ok (.ifCond .ne 21, 3) := by decide +kernel
theorem dX12_named_9 : decode cX12_named 9 = .ok (.aload_n 0, 1) := by decide +kernel
theorem dX12_named_10 : decode cX12_named 10 = .ok (.getfield 18, 3) := by decide +kernel
theorem dX12_named_13 : decode cX12_named 13 = .ok (.iconst 0, 1) := by decide +kernel
theorem dX12_named_14 : decode cX12_named 14 = .ok (.aload_n 0, 1) := by decide +kernel
theorem dX12_named_15 : decode cX12_named 15 = .ok (.getfield 15, 3) := by decide +kernel
theorem dX12_named_18 : decode cX12_named 18 = .ok (.iconst 0, 1) := by decide +kernel
theorem dX12_named_19 : decode cX12_named 19 = .ok (.iaload, 1) := by decide +kernel
theorem dX12_named_20 : decode cX12_named 20 = .ok (.iload_n 2, 1) := by decide +kernel
theorem dX12_named_21 : decode cX12_named 21 = .ok (.invokestatic 217, 3) := by decide +kernel
theorem dX12_named_24 : decode cX12_named 24 = .ok (.goto 27, 3) := by decide +kernel
theorem dX12_named_27 : decode cX12_named 27 = .ok (.iload_n 1, 1) := by decide +kernel
theorem dX12_named_28 : decode cX12_named 28 = .ok (.iconst 1, 1) := by decide +kernel
theorem dX12_named_29 : decode cX12_named 29 = .ok (.if_icmp .ne 21, 3) := by decide +kernel
theorem dX12_named_32 : decode cX12_named 32 = .ok (.aload_n 0, 1) := by decide +kernel
theorem dX12_named_33 : decode cX12_named 33 = .ok (.getfield 51, 3) := by decide +kernel
theorem dX12_named_36 : decode cX12_named 36 = .ok (.iconst 0, 1) := by decide +kernel
theorem dX12_named_37 : decode cX12_named 37 = .ok (.aload_n 0, 1) := by decide +kernel
theorem dX12_named_38 : decode cX12_named 38 = .ok (.getfield 15, 3) := by decide +kernel
theorem dX12_named_41 : decode cX12_named 41 = .ok (.iconst 3, 1) := by decide +kernel
theorem dX12_named_42 : decode cX12_named 42 = .ok (.iaload, 1) := by decide +kernel
theorem dX12_named_43 : decode cX12_named 43 = .ok (.iload_n 2, 1) := by decide +kernel
theorem dX12_named_44 : decode cX12_named 44 = .ok (.invokestatic 217, 3) := by decide +kernel
theorem dX12_named_47 : decode cX12_named 47 = .ok (.goto 4, 3) := by decide +kernel
theorem dX12_named_50 : decode cX12_named 50 = .ok (.iconst (-1), 1) := by decide +kernel
theorem dX12_named_51 : decode cX12_named 51 = .ok (.ireturn, 1) := by decide +kernel
theorem dX12_isCorner_0 : decode cX12_isCorner 0 = .ok (.iload_n 1, 1) := by decide +kernel
theorem dX12_isCorner_1 : decode cX12_isCorner 1 = .ok (.ifCond .lt 17, 3) := by decide +kernel
theorem dX12_isCorner_4 : decode cX12_isCorner 4 = .ok (.iload_n 1, 1) := by decide +kernel
theorem dX12_isCorner_5 : decode cX12_isCorner 5 = .ok (.aload_n 0, 1) := by decide +kernel
theorem dX12_isCorner_6 : decode cX12_isCorner 6 = .ok (.getfield 15, 3) := by decide +kernel
theorem dX12_isCorner_9 : decode cX12_isCorner 9 = .ok (.iconst 0, 1) := by decide +kernel
theorem dX12_isCorner_10 : decode cX12_isCorner 10 = .ok (.iaload, 1) := by decide +kernel
theorem dX12_isCorner_11 : decode cX12_isCorner 11 = .ok (.if_icmp .ge 7, 3) := by decide +kernel
theorem dX12_isCorner_14 : decode cX12_isCorner 14 = .ok (.iconst 1, 1) := by decide +kernel
theorem dX12_isCorner_15 : decode cX12_isCorner 15 = .ok (.goto 4, 3) := by decide +kernel
theorem dX12_isCorner_18 : decode cX12_isCorner 18 = .ok (.iconst 0, 1) := by decide +kernel
theorem dX12_isCorner_19 : decode cX12_isCorner 19 = .ok (.ireturn, 1) := by decide +kernel
theorem dX12_isStreet_0 : decode cX12_isStreet 0 = .ok (.iload_n 1, 1) := by decide +kernel
theorem dX12_isStreet_1 : decode cX12_isStreet 1 = .ok (.ifCond .lt 17, 3) := by decide +kernel
theorem dX12_isStreet_4 : decode cX12_isStreet 4 = .ok (.iload_n 1, 1) := by decide +kernel
theorem dX12_isStreet_5 : decode cX12_isStreet 5 = .ok (.aload_n 0, 1) := by decide +kernel
theorem dX12_isStreet_6 : decode cX12_isStreet 6 = .ok (.getfield 15, 3) := by decide +kernel
theorem dX12_isStreet_9 : decode cX12_isStreet 9 = .ok (.iconst 1, 1) := by decide +kernel
theorem dX12_isStreet_10 : decode cX12_isStreet 10 = .ok (.iaload, 1) := by decide +kernel
theorem dX12_isStreet_11 : decode cX12_isStreet 11 = .ok (.if_icmp .ge 7, 3) := by decide +kernel
theorem dX12_isStreet_14 : decode cX12_isStreet 14 = .ok (.iconst 1, 1) := by decide +kernel
theorem dX12_isStreet_15 : decode cX12_isStreet 15 = .ok (.goto 4, 3) := by decide +kernel
theorem dX12_isStreet_18 : decode cX12_isStreet 18 = .ok (.iconst 0, 1) := by decide +kernel
theorem dX12_isStreet_19 : decode cX12_isStreet 19 = .ok (.ireturn, 1) := by decide +kernel
theorem dX12_isRain_0 : decode cX12_isRain 0 = .ok (.iload_n 1, 1) := by decide +kernel
theorem dX12_isRain_1 : decode cX12_isRain 1 = .ok (.ifCond .lt 17, 3) := by decide +kernel
theorem dX12_isRain_4 : decode cX12_isRain 4 = .ok (.iload_n 1, 1) := by decide +kernel
theorem dX12_isRain_5 : decode cX12_isRain 5 = .ok (.aload_n 0, 1) := by decide +kernel
theorem dX12_isRain_6 : decode cX12_isRain 6 = .ok (.getfield 15, 3) := by decide +kernel
theorem dX12_isRain_9 : decode cX12_isRain 9 = .ok (.iconst 3, 1) := by decide +kernel
theorem dX12_isRain_10 : decode cX12_isRain 10 = .ok (.iaload, 1) := by decide +kernel
theorem dX12_isRain_11 : decode cX12_isRain 11 = .ok (.if_icmp .ge 7, 3) := by decide +kernel
theorem dX12_isRain_14 : decode cX12_isRain 14 = .ok (.iconst 1, 1) := by decide +kernel
theorem dX12_isRain_15 : decode cX12_isRain 15 = .ok (.goto 4, 3) := by decide +kernel
theorem dX12_isRain_18 : decode cX12_isRain 18 = .ok (.iconst 0, 1) := by decide +kernel
theorem dX12_isRain_19 : decode cX12_isRain 19 = .ok (.ireturn, 1) := by decide +kernel
theorem dX12_look_0 : decode cX12_look 0 = .ok (.aload_n 0, 1) := by decide +kernel
theorem dX12_look_1 : decode cX12_look 1 = .ok (.aload_n 0, 1) := by decide +kernel
theorem dX12_look_2 : decode cX12_look 2 = .ok (.iload_n 1, 1) := by decide +kernel
theorem dX12_look_3 : decode cX12_look 3 = .ok (.invokevirtual 327, 3) := by decide +kernel
theorem dX12_look_6 : decode cX12_look 6 = .ok (.ifCond .ne 7, 3) := by decide +kernel
theorem dX12_look_9 : decode cX12_look 9 = .ok (.iconst 1, 1) := by decide +kernel
theorem dX12_look_10 : decode cX12_look 10 = .ok (.goto 17, 3) := by decide +kernel
theorem dX12_look_13 : decode cX12_look 13 = .ok (.iload_n 2, 1) := by decide +kernel
theorem dX12_look_14 : decode cX12_look 14 = .ok (.ifCond .lt 8, 3) := by decide +kernel
theorem dX12_look_17 : decode cX12_look 17 = .ok (.iload_n 2, 1) := by decide +kernel
theorem dX12_look_18 : decode cX12_look 18 = .ok (.iconst 2, 1) := by decide +kernel
theorem dX12_look_19 : decode cX12_look 19 = .ok (.if_icmp .le 7, 3) := by decide +kernel
theorem dX12_look_22 : decode cX12_look 22 = .ok (.iconst 2, 1) := by decide +kernel
theorem dX12_look_23 : decode cX12_look 23 = .ok (.goto 4, 3) := by decide +kernel
theorem dX12_look_26 : decode cX12_look 26 = .ok (.iconst 0, 1) := by decide +kernel
theorem dX12_look_27 : decode cX12_look 27 = .ok (.putfield 153, 3) := by decide +kernel
theorem dX12_look_30 : decode cX12_look 30 = .ok (.aload_n 0, 1) := by decide +kernel
theorem dX12_look_31 : decode cX12_look 31 = .ok (.getfield 153, 3) := by decide +kernel
theorem dX12_look_34 : decode cX12_look 34 = .ok (.ifCond .eq 5, 3) := by decide +kernel
theorem dX12_look_37 : decode cX12_look 37 = .ok (.iconst 0, 1) := by decide +kernel
theorem dX12_look_38 : decode cX12_look 38 = .ok (.ireturn, 1) := by decide +kernel
theorem dX12_look_39 : decode cX12_look 39 = .ok (.iload_n 2, 1) := by decide +kernel
theorem dX12_look_40 : decode cX12_look 40 = .ok (.ifCond .ne 12, 3) := by decide +kernel
theorem dX12_look_43 : decode cX12_look 43 = .ok (.aload_n 0, 1) := by decide +kernel
theorem dX12_look_44 : decode cX12_look 44 = .ok (.getfield 21, 3) := by decide +kernel
theorem dX12_look_47 : decode cX12_look 47 = .ok (.iload_n 1, 1) := by decide +kernel
theorem dX12_look_48 : decode cX12_look 48 = .ok (.iaload, 1) := by decide +kernel
theorem dX12_look_49 : decode cX12_look 49 = .ok (.goto 23, 3) := by decide +kernel
theorem dX12_look_52 : decode cX12_look 52 = .ok (.iload_n 2, 1) := by decide +kernel
theorem dX12_look_53 : decode cX12_look 53 = .ok (.iconst 1, 1) := by decide +kernel
theorem dX12_look_54 : decode cX12_look 54 = .ok (.if_icmp .ne 12, 3) := by decide +kernel
theorem dX12_look_57 : decode cX12_look 57 = .ok (.aload_n 0, 1) := by decide +kernel
theorem dX12_look_58 : decode cX12_look 58 = .ok (.getfield 24, 3) := by decide +kernel
theorem dX12_look_61 : decode cX12_look 61 = .ok (.iload_n 1, 1) := by decide +kernel
theorem dX12_look_62 : decode cX12_look 62 = .ok (.iaload, 1) := by decide +kernel
theorem dX12_look_63 : decode cX12_look 63 = .ok (.goto 9, 3) := by decide +kernel
theorem dX12_look_66 : decode cX12_look 66 = .ok (.aload_n 0, 1) := by decide +kernel
theorem dX12_look_67 : decode cX12_look 67 = .ok (.getfield 27, 3) := by decide +kernel
theorem dX12_look_70 : decode cX12_look 70 = .ok (.iload_n 1, 1) := by decide +kernel
theorem dX12_look_71 : decode cX12_look 71 = .ok (.iaload, 1) := by decide +kernel
theorem dX12_look_72 : decode cX12_look 72 = .ok (.ireturn, 1) := by decide +kernel
theorem dX12_street_0 : decode cX12_street 0 = .ok (.aload_n 0, 1) := by decide +kernel
theorem dX12_street_1 : decode cX12_street 1 = .ok (.iconst 0, 1) := by decide +kernel
theorem dX12_street_2 : decode cX12_street 2 = .ok (.putfield 153, 3) := by decide +kernel
theorem dX12_street_5 : decode cX12_street 5 = .ok (.aload_n 0, 1) := by decide +kernel
theorem dX12_street_6 : decode cX12_street 6 = .ok (.iload_n 1, 1) := by decide +kernel
theorem dX12_street_7 : decode cX12_street 7 = .ok (.invokevirtual 330, 3) := by decide +kernel
theorem dX12_street_10 : decode cX12_street 10 = .ok (.ifCond .ne 5, 3) := by decide +kernel
theorem dX12_street_13 : decode cX12_street 13 = .ok (.iconst (-1), 1) := by decide +kernel
theorem dX12_street_14 : decode cX12_street 14 = .ok (.ireturn, 1) := by decide +kernel
theorem dX12_street_15 : decode cX12_street 15 = .ok (.iload_n 2, 1) := by decide +kernel
theorem dX12_street_16 : decode cX12_street 16 = .ok (.tableswitch 71 0 4 #[36, 43, 50, 57, 64], 36) := by decide +kernel
theorem dX12_street_52 : decode cX12_street 52 = .ok (.aload_n 0, 1) := by decide +kernel
theorem dX12_street_53 : decode cX12_street 53 = .ok (.getfield 30, 3) := by decide +kernel
theorem dX12_street_56 : decode cX12_street 56 = .ok (.iload_n 1, 1) := by decide +kernel
theorem dX12_street_57 : decode cX12_street 57 = .ok (.iaload, 1) := by decide +kernel
theorem dX12_street_58 : decode cX12_street 58 = .ok (.ireturn, 1) := by decide +kernel
theorem dX12_street_59 : decode cX12_street 59 = .ok (.aload_n 0, 1) := by decide +kernel
theorem dX12_street_60 : decode cX12_street 60 = .ok (.getfield 33, 3) := by decide +kernel
theorem dX12_street_63 : decode cX12_street 63 = .ok (.iload_n 1, 1) := by decide +kernel
theorem dX12_street_64 : decode cX12_street 64 = .ok (.iaload, 1) := by decide +kernel
theorem dX12_street_65 : decode cX12_street 65 = .ok (.ireturn, 1) := by decide +kernel
theorem dX12_street_66 : decode cX12_street 66 = .ok (.aload_n 0, 1) := by decide +kernel
theorem dX12_street_67 : decode cX12_street 67 = .ok (.getfield 36, 3) := by decide +kernel
theorem dX12_street_70 : decode cX12_street 70 = .ok (.iload_n 1, 1) := by decide +kernel
theorem dX12_street_71 : decode cX12_street 71 = .ok (.iaload, 1) := by decide +kernel
theorem dX12_street_72 : decode cX12_street 72 = .ok (.ireturn, 1) := by decide +kernel
theorem dX12_street_73 : decode cX12_street 73 = .ok (.aload_n 0, 1) := by decide +kernel
theorem dX12_street_74 : decode cX12_street 74 = .ok (.getfield 39, 3) := by decide +kernel
theorem dX12_street_77 : decode cX12_street 77 = .ok (.iload_n 1, 1) := by decide +kernel
theorem dX12_street_78 : decode cX12_street 78 = .ok (.iaload, 1) := by decide +kernel
theorem dX12_street_79 : decode cX12_street 79 = .ok (.ireturn, 1) := by decide +kernel
theorem dX12_street_80 : decode cX12_street 80 = .ok (.aload_n 0, 1) := by decide +kernel
theorem dX12_street_81 : decode cX12_street 81 = .ok (.getfield 42, 3) := by decide +kernel
theorem dX12_street_84 : decode cX12_street 84 = .ok (.iload_n 1, 1) := by decide +kernel
theorem dX12_street_85 : decode cX12_street 85 = .ok (.iaload, 1) := by decide +kernel
theorem dX12_street_86 : decode cX12_street 86 = .ok (.ireturn, 1) := by decide +kernel
theorem dX12_street_87 : decode cX12_street 87 = .ok (.iconst (-1), 1) := by decide +kernel
theorem dX12_street_88 : decode cX12_street 88 = .ok (.ireturn, 1) := by decide +kernel
theorem dX12_pipe_0 : decode cX12_pipe 0 = .ok (.aload_n 0, 1) := by decide +kernel
theorem dX12_pipe_1 : decode cX12_pipe 1 = .ok (.iconst 0, 1) := by decide +kernel
theorem dX12_pipe_2 : decode cX12_pipe 2 = .ok (.putfield 153, 3) := by decide +kernel
theorem dX12_pipe_5 : decode cX12_pipe 5 = .ok (.iload_n 1, 1) := by decide +kernel
theorem dX12_pipe_6 : decode cX12_pipe 6 = .ok (.ifCond .lt 22, 3) := by decide +kernel
theorem dX12_pipe_9 : decode cX12_pipe 9 = .ok (.iload_n 1, 1) := by decide +kernel
theorem dX12_pipe_10 : decode cX12_pipe 10 = .ok (.aload_n 0, 1) := by decide +kernel
theorem dX12_pipe_11 : decode cX12_pipe 11 = .ok (.getfield 15, 3) := by decide +kernel
theorem dX12_pipe_14 : decode cX12_pipe 14 = .ok (.iconst 2, 1) := by decide +kernel
theorem dX12_pipe_15 : decode cX12_pipe 15 = .ok (.iaload, 1) := by decide +kernel
theorem dX12_pipe_16 : decode cX12_pipe 16 = .ok (.if_icmp .ge 12, 3) := by decide +kernel
theorem dX12_pipe_19 : decode cX12_pipe 19 = .ok (.iload_n 2, 1) := by decide +kernel
theorem dX12_pipe_20 : decode cX12_pipe 20 = .ok (.ifCond .lt 8, 3) := by decide +kernel
theorem dX12_pipe_23 : decode cX12_pipe 23 = .ok (.iload_n 2, 1) := by decide +kernel
theorem dX12_pipe_24 : decode cX12_pipe 24 = .ok (.iconst 1, 1) := by decide +kernel
theorem dX12_pipe_25 : decode cX12_pipe 25 = .ok (.if_icmp .le 5, 3) := by decide +kernel
theorem dX12_pipe_28 : decode cX12_pipe 28 = .ok (.iconst (-1), 1) := by decide +kernel
theorem dX12_pipe_29 : decode cX12_pipe 29 = .ok (.ireturn, 1) := by decide +kernel
theorem dX12_pipe_30 : decode cX12_pipe 30 = .ok (.iload_n 2, 1) := by decide +kernel
theorem dX12_pipe_31 : decode cX12_pipe 31 = .ok (.ifCond .ne 12, 3) := by decide +kernel
theorem dX12_pipe_34 : decode cX12_pipe 34 = .ok (.aload_n 0, 1) := by decide +kernel
theorem dX12_pipe_35 : decode cX12_pipe 35 = .ok (.getfield 45, 3) := by decide +kernel
theorem dX12_pipe_38 : decode cX12_pipe 38 = .ok (.iload_n 1, 1) := by decide +kernel
theorem dX12_pipe_39 : decode cX12_pipe 39 = .ok (.iaload, 1) := by decide +kernel
theorem dX12_pipe_40 : decode cX12_pipe 40 = .ok (.goto 9, 3) := by decide +kernel
theorem dX12_pipe_43 : decode cX12_pipe 43 = .ok (.aload_n 0, 1) := by decide +kernel
theorem dX12_pipe_44 : decode cX12_pipe 44 = .ok (.getfield 48, 3) := by decide +kernel
theorem dX12_pipe_47 : decode cX12_pipe 47 = .ok (.iload_n 1, 1) := by decide +kernel
theorem dX12_pipe_48 : decode cX12_pipe 48 = .ok (.iaload, 1) := by decide +kernel
theorem dX12_pipe_49 : decode cX12_pipe 49 = .ok (.ireturn, 1) := by decide +kernel
theorem dX12_is_0 : decode cX12_is 0 = .ok (.iload_n 0, 1) := by decide +kernel
theorem dX12_is_1 : decode cX12_is 1 = .ok (.ifCond .eq 7, 3) := by decide +kernel
theorem dX12_is_4 : decode cX12_is 4 = .ok (.lconst 1, 1) := by decide +kernel
theorem dX12_is_5 : decode cX12_is 5 = .ok (.goto 4, 3) := by decide +kernel
theorem dX12_is_8 : decode cX12_is 8 = .ok (.lconst 0, 1) := by decide +kernel
theorem dX12_is_9 : decode cX12_is 9 = .ok (.lreturn, 1) := by decide +kernel
theorem dX12_works_0 : decode cX12_works 0 = .ok (.aload_n 0, 1) := by decide +kernel
theorem dX12_works_1 : decode cX12_works 1 = .ok (.getfield 80, 3) := by decide +kernel
theorem dX12_works_4 : decode cX12_works 4 = .ok (.aload_n 0, 1) := by decide +kernel
theorem dX12_works_5 : decode cX12_works 5 = .ok (.getfield 333, 3) := by decide +kernel
theorem dX12_works_8 : decode cX12_works 8 = .ok (.iconst 1, 1) := by decide +kernel
theorem dX12_works_9 : decode cX12_works 9 = .ok (.isub, 1) := by decide +kernel
theorem dX12_works_10 : decode cX12_works 10 = .ok (.laload, 1) := by decide +kernel
theorem dX12_works_11 : decode cX12_works 11 = .ok (.lstore_n 2, 1) := by decide +kernel
theorem dX12_works_12 : decode cX12_works 12 = .ok (.iload_n 1, 1) := by decide +kernel
theorem dX12_works_13 : decode cX12_works 13 = .ok (.sipush 260, 3) := by decide +kernel
theorem dX12_works_16 : decode cX12_works 16 = .ok (.if_icmp .ne 30, 3) := by decide +kernel
theorem dX12_works_19 : decode cX12_works 19 = .ok (.aload_n 0, 1) := by decide +kernel
theorem dX12_works_20 : decode cX12_works 20 = .ok (.getfield 80, 3) := by decide +kernel
theorem dX12_works_23 : decode cX12_works 23 = .ok (.aload_n 0, 1) := by decide +kernel
theorem dX12_works_24 : decode cX12_works 24 = .ok (.getfield 333, 3) := by decide +kernel
theorem dX12_works_27 : decode cX12_works 27 = .ok (.iconst 1, 1) := by decide +kernel
theorem dX12_works_28 : decode cX12_works 28 = .ok (.isub, 1) := by decide +kernel
theorem dX12_works_29 : decode cX12_works 29 = .ok (.lload_n 2, 1) := by decide +kernel
theorem dX12_works_30 : decode cX12_works 30 = .ok (.lconst 0, 1) := by decide +kernel
theorem dX12_works_31 : decode cX12_works 31 = .ok (.lcmp, 1) := by decide +kernel
theorem dX12_works_32 : decode cX12_works 32 = .ok (.ifCond .ne 7, 3) := by decide +kernel
theorem dX12_works_35 : decode cX12_works 35 = .ok (.iconst 1, 1) := by decide +kernel
theorem dX12_works_36 : decode cX12_works 36 = .ok (.goto 4, 3) := by decide +kernel
theorem dX12_works_39 : decode cX12_works 39 = .ok (.iconst 0, 1) := by decide +kernel
theorem dX12_works_40 : decode cX12_works 40 = .ok (.invokestatic 336, 3) := by decide +kernel
theorem dX12_works_43 : decode cX12_works 43 = .ok (.lastore, 1) := by decide +kernel
theorem dX12_works_44 : decode cX12_works 44 = .ok (.iconst 1, 1) := by decide +kernel
theorem dX12_works_45 : decode cX12_works 45 = .ok (.ireturn, 1) := by decide +kernel
theorem dX12_works_46 : decode cX12_works 46 = .ok (.aload_n 0, 1) := by decide +kernel
theorem dX12_works_47 : decode cX12_works 47 = .ok (.getfield 80, 3) := by decide +kernel
theorem dX12_works_50 : decode cX12_works 50 = .ok (.aload_n 0, 1) := by decide +kernel
theorem dX12_works_51 : decode cX12_works 51 = .ok (.getfield 333, 3) := by decide +kernel
theorem dX12_works_54 : decode cX12_works 54 = .ok (.iconst 2, 1) := by decide +kernel
theorem dX12_works_55 : decode cX12_works 55 = .ok (.isub, 1) := by decide +kernel
theorem dX12_works_56 : decode cX12_works 56 = .ok (.laload, 1) := by decide +kernel
theorem dX12_works_57 : decode cX12_works 57 = .ok (.lstore 4, 2) := by decide +kernel
theorem dX12_works_59 : decode cX12_works 59 = .ok (.aload_n 0, 1) := by decide +kernel
theorem dX12_works_60 : decode cX12_works 60 = .ok (.dup, 1) := by decide +kernel
theorem dX12_works_61 : decode cX12_works 61 = .ok (.getfield 333, 3) := by decide +kernel
theorem dX12_works_64 : decode cX12_works 64 = .ok (.iconst 1, 1) := by decide +kernel
theorem dX12_works_65 : decode cX12_works 65 = .ok (.isub, 1) := by decide +kernel
theorem dX12_works_66 : decode cX12_works 66 = .ok (.putfield 333, 3) := by decide +kernel
theorem dX12_works_69 : decode cX12_works 69 = .ok (.iload_n 1, 1) := by decide +kernel
theorem dX12_works_70 : decode cX12_works 70 = .ok (.lookupswitch 314 #[(42, 116), (43, 98), (45, 107), (47, 151), (60, 168), (61, 208), (62, 188), (256, 228), (257, 268), (258, 248), (261, 288)], 98) := by decide +kernel
theorem dX12_works_168 : decode cX12_works 168 = .ok (.lload 4, 2) := by decide +kernel
theorem dX12_works_170 : decode cX12_works 170 = .ok (.lload_n 2, 1) := by decide +kernel
theorem dX12_works_171 : decode cX12_works 171 = .ok (.ladd, 1) := by decide +kernel
theorem dX12_works_172 : decode cX12_works 172 = .ok (.lstore 6, 2) := by decide +kernel
theorem dX12_works_174 : decode cX12_works 174 = .ok (.goto 233, 3) := by decide +kernel
theorem dX12_works_177 : decode cX12_works 177 = .ok (.lload 4, 2) := by decide +kernel
theorem dX12_works_179 : decode cX12_works 179 = .ok (.lload_n 2, 1) := by decide +kernel
theorem dX12_works_180 : decode cX12_works 180 = .ok (.lsub, 1) := by decide +kernel
theorem dX12_works_181 : decode cX12_works 181 = .ok (.lstore 6, 2) := by decide +kernel
theorem dX12_works_183 : decode cX12_works 183 = .ok (.goto 224, 3) := by decide +kernel
theorem dX12_works_186 : decode cX12_works 186 = .ok (.lload 4, 2) := by decide +kernel
theorem dX12_works_188 : decode cX12_works 188 = .ok (.lconst 0, 1) := by decide +kernel
theorem dX12_works_189 : decode cX12_works 189 = .ok (.lcmp, 1) := by decide +kernel
theorem dX12_works_190 : decode cX12_works 190 = .ok (.ifCond .eq 22, 3) := by decide +kernel
theorem dX12_works_193 : decode cX12_works 193 = .ok (.lload_n 2, 1) := by decide +kernel
theorem dX12_works_194 : decode cX12_works 194 = .ok (.invokestatic 340, 3) := by decide +kernel
theorem dX12_works_197 : decode cX12_works 197 = .ok (.ldc2_w 346, 3) := by decide +kernel
theorem dX12_works_200 : decode cX12_works 200 = .ok (.lload 4, 2) := by decide +kernel
theorem dX12_works_202 : decode cX12_works 202 = .ok (.invokestatic 340, 3) := by decide +kernel
theorem dX12_works_205 : decode cX12_works 205 = .ok (.ldiv, 1) := by decide +kernel
theorem dX12_works_206 : decode cX12_works 206 = .ok (.lcmp, 1) := by decide +kernel
theorem dX12_works_207 : decode cX12_works 207 = .ok (.ifCond .le 5, 3) := by decide +kernel
theorem dX12_works_210 : decode cX12_works 210 = .ok (.iconst 0, 1) := by decide +kernel
theorem dX12_works_211 : decode cX12_works 211 = .ok (.ireturn, 1) := by decide +kernel
theorem dX12_works_212 : decode cX12_works 212 = .ok (.lload 4, 2) := by decide +kernel
theorem dX12_works_214 : decode cX12_works 214 = .ok (.lload_n 2, 1) := by decide +kernel
theorem dX12_works_215 : decode cX12_works 215 = .ok (.lmul, 1) := by decide +kernel
theorem dX12_works_216 : decode cX12_works 216 = .ok (.lstore 6, 2) := by decide +kernel
theorem dX12_works_218 : decode cX12_works 218 = .ok (.goto 189, 3) := by decide +kernel
theorem dX12_works_221 : decode cX12_works 221 = .ok (.lload_n 2, 1) := by decide +kernel
theorem dX12_works_222 : decode cX12_works 222 = .ok (.lconst 0, 1) := by decide +kernel
theorem dX12_works_223 : decode cX12_works 223 = .ok (.lcmp, 1) := by decide +kernel
theorem dX12_works_224 : decode cX12_works 224 = .ok (.ifCond .ne 5, 3) := by decide +kernel
theorem dX12_works_227 : decode cX12_works 227 = .ok (.iconst 0, 1) := by decide +kernel
theorem dX12_works_228 : decode cX12_works 228 = .ok (.ireturn, 1) := by decide +kernel
theorem dX12_works_229 : decode cX12_works 229 = .ok (.lload 4, 2) := by decide +kernel
theorem dX12_works_231 : decode cX12_works 231 = .ok (.lload_n 2, 1) := by decide +kernel
theorem dX12_works_232 : decode cX12_works 232 = .ok (.ldiv, 1) := by decide +kernel
theorem dX12_works_233 : decode cX12_works 233 = .ok (.lstore 6, 2) := by decide +kernel
theorem dX12_works_235 : decode cX12_works 235 = .ok (.goto 172, 3) := by decide +kernel
theorem dX12_works_238 : decode cX12_works 238 = .ok (.lload 4, 2) := by decide +kernel
theorem dX12_works_240 : decode cX12_works 240 = .ok (.lload_n 2, 1) := by decide +kernel
theorem dX12_works_241 : decode cX12_works 241 = .ok (.lcmp, 1) := by decide +kernel
theorem dX12_works_242 : decode cX12_works 242 = .ok (.ifCond .ge 7, 3) := by decide +kernel
theorem dX12_works_245 : decode cX12_works 245 = .ok (.iconst 1, 1) := by decide +kernel
theorem dX12_works_246 : decode cX12_works 246 = .ok (.goto 4, 3) := by decide +kernel
theorem dX12_works_249 : decode cX12_works 249 = .ok (.iconst 0, 1) := by decide +kernel
theorem dX12_works_250 : decode cX12_works 250 = .ok (.invokestatic 336, 3) := by decide +kernel
theorem dX12_works_253 : decode cX12_works 253 = .ok (.lstore 6, 2) := by decide +kernel
theorem dX12_works_255 : decode cX12_works 255 = .ok (.goto 152, 3) := by decide +kernel
theorem dX12_works_258 : decode cX12_works 258 = .ok (.lload 4, 2) := by decide +kernel
theorem dX12_works_260 : decode cX12_works 260 = .ok (.lload_n 2, 1) := by decide +kernel
theorem dX12_works_261 : decode cX12_works 261 = .ok (.lcmp, 1) := by decide +kernel
theorem dX12_works_262 : decode cX12_works 262 = .ok (.ifCond .le 7, 3) := by decide +kernel
theorem dX12_works_265 : decode cX12_works 265 = .ok (.iconst 1, 1) := by decide +kernel
theorem dX12_works_266 : decode cX12_works 266 = .ok (.goto 4, 3) := by decide +kernel
theorem dX12_works_269 : decode cX12_works 269 = .ok (.iconst 0, 1) := by decide +kernel
theorem dX12_works_270 : decode cX12_works 270 = .ok (.invokestatic 336, 3) := by decide +kernel
theorem dX12_works_273 : decode cX12_works 273 = .ok (.lstore 6, 2) := by decide +kernel
theorem dX12_works_275 : decode cX12_works 275 = .ok (.goto 132, 3) := by decide +kernel
theorem dX12_works_278 : decode cX12_works 278 = .ok (.lload 4, 2) := by decide +kernel
theorem dX12_works_280 : decode cX12_works 280 = .ok (.lload_n 2, 1) := by decide +kernel
theorem dX12_works_281 : decode cX12_works 281 = .ok (.lcmp, 1) := by decide +kernel
theorem dX12_works_282 : decode cX12_works 282 = .ok (.ifCond .ne 7, 3) := by decide +kernel
theorem dX12_works_285 : decode cX12_works 285 = .ok (.iconst 1, 1) := by decide +kernel
theorem dX12_works_286 : decode cX12_works 286 = .ok (.goto 4, 3) := by decide +kernel
theorem dX12_works_289 : decode cX12_works 289 = .ok (.iconst 0, 1) := by decide +kernel
theorem dX12_works_290 : decode cX12_works 290 = .ok (.invokestatic 336, 3) := by decide +kernel
theorem dX12_works_293 : decode cX12_works 293 = .ok (.lstore 6, 2) := by decide +kernel
theorem dX12_works_295 : decode cX12_works 295 = .ok (.goto 112, 3) := by decide +kernel
theorem dX12_works_298 : decode cX12_works 298 = .ok (.lload 4, 2) := by decide +kernel
theorem dX12_works_300 : decode cX12_works 300 = .ok (.lload_n 2, 1) := by decide +kernel
theorem dX12_works_301 : decode cX12_works 301 = .ok (.lcmp, 1) := by decide +kernel
theorem dX12_works_302 : decode cX12_works 302 = .ok (.ifCond .gt 7, 3) := by decide +kernel
theorem dX12_works_305 : decode cX12_works 305 = .ok (.iconst 1, 1) := by decide +kernel
theorem dX12_works_306 : decode cX12_works 306 = .ok (.goto 4, 3) := by decide +kernel
theorem dX12_works_309 : decode cX12_works 309 = .ok (.iconst 0, 1) := by decide +kernel
theorem dX12_works_310 : decode cX12_works 310 = .ok (.invokestatic 336, 3) := by decide +kernel
theorem dX12_works_313 : decode cX12_works 313 = .ok (.lstore 6, 2) := by decide +kernel
theorem dX12_works_315 : decode cX12_works 315 = .ok (.goto 92, 3) := by decide +kernel
theorem dX12_works_318 : decode cX12_works 318 = .ok (.lload 4, 2) := by decide +kernel
theorem dX12_works_320 : decode cX12_works 320 = .ok (.lload_n 2, 1) := by decide +kernel
theorem dX12_works_321 : decode cX12_works 321 = .ok (.lcmp, 1) := by decide +kernel
theorem dX12_works_322 : decode cX12_works 322 = .ok (.ifCond .lt 7, 3) := by decide +kernel
theorem dX12_works_325 : decode cX12_works 325 = .ok (.iconst 1, 1) := by decide +kernel
theorem dX12_works_326 : decode cX12_works 326 = .ok (.goto 4, 3) := by decide +kernel
theorem dX12_works_329 : decode cX12_works 329 = .ok (.iconst 0, 1) := by decide +kernel
theorem dX12_works_330 : decode cX12_works 330 = .ok (.invokestatic 336, 3) := by decide +kernel
theorem dX12_works_333 : decode cX12_works 333 = .ok (.lstore 6, 2) := by decide +kernel
theorem dX12_works_335 : decode cX12_works 335 = .ok (.goto 72, 3) := by decide +kernel
theorem dX12_works_338 : decode cX12_works 338 = .ok (.lload 4, 2) := by decide +kernel
theorem dX12_works_340 : decode cX12_works 340 = .ok (.lload_n 2, 1) := by decide +kernel
theorem dX12_works_341 : decode cX12_works 341 = .ok (.lcmp, 1) := by decide +kernel
theorem dX12_works_342 : decode cX12_works 342 = .ok (.ifCond .eq 7, 3) := by decide +kernel
theorem dX12_works_345 : decode cX12_works 345 = .ok (.iconst 1, 1) := by decide +kernel
theorem dX12_works_346 : decode cX12_works 346 = .ok (.goto 4, 3) := by decide +kernel
theorem dX12_works_349 : decode cX12_works 349 = .ok (.iconst 0, 1) := by decide +kernel
theorem dX12_works_350 : decode cX12_works 350 = .ok (.invokestatic 336, 3) := by decide +kernel
theorem dX12_works_353 : decode cX12_works 353 = .ok (.lstore 6, 2) := by decide +kernel
theorem dX12_works_355 : decode cX12_works 355 = .ok (.goto 52, 3) := by decide +kernel
theorem dX12_works_358 : decode cX12_works 358 = .ok (.lload 4, 2) := by decide +kernel
theorem dX12_works_360 : decode cX12_works 360 = .ok (.lconst 0, 1) := by decide +kernel
theorem dX12_works_361 : decode cX12_works 361 = .ok (.lcmp, 1) := by decide +kernel
theorem dX12_works_362 : decode cX12_works 362 = .ok (.ifCond .eq 13, 3) := by decide +kernel
theorem dX12_works_365 : decode cX12_works 365 = .ok (.lload_n 2, 1) := by decide +kernel
theorem dX12_works_366 : decode cX12_works 366 = .ok (.lconst 0, 1) := by decide +kernel
theorem dX12_works_367 : decode cX12_works 367 = .ok (.lcmp, 1) := by decide +kernel
theorem dX12_works_368 : decode cX12_works 368 = .ok (.ifCond .eq 7, 3) := by decide +kernel
theorem dX12_works_371 : decode cX12_works 371 = .ok (.iconst 1, 1) := by decide +kernel
theorem dX12_works_372 : decode cX12_works 372 = .ok (.goto 4, 3) := by decide +kernel
theorem dX12_works_375 : decode cX12_works 375 = .ok (.iconst 0, 1) := by decide +kernel
theorem dX12_works_376 : decode cX12_works 376 = .ok (.invokestatic 336, 3) := by decide +kernel
theorem dX12_works_379 : decode cX12_works 379 = .ok (.lstore 6, 2) := by decide +kernel
theorem dX12_works_381 : decode cX12_works 381 = .ok (.goto 26, 3) := by decide +kernel
theorem dX12_works_384 : decode cX12_works 384 = .ok (.lload 4, 2) := by decide +kernel
theorem dX12_works_386 : decode cX12_works 386 = .ok (.lconst 0, 1) := by decide +kernel
theorem dX12_works_387 : decode cX12_works 387 = .ok (.lcmp, 1) := by decide +kernel
theorem dX12_works_388 : decode cX12_works 388 = .ok (.ifCond .ne 9, 3) := by decide +kernel
theorem dX12_works_391 : decode cX12_works 391 = .ok (.lload_n 2, 1) := by decide +kernel
theorem dX12_works_392 : decode cX12_works 392 = .ok (.lconst 0, 1) := by decide +kernel
theorem dX12_works_393 : decode cX12_works 393 = .ok (.lcmp, 1) := by decide +kernel
theorem dX12_works_394 : decode cX12_works 394 = .ok (.ifCond .eq 7, 3) := by decide +kernel
theorem dX12_works_397 : decode cX12_works 397 = .ok (.iconst 1, 1) := by decide +kernel
theorem dX12_works_398 : decode cX12_works 398 = .ok (.goto 4, 3) := by decide +kernel
theorem dX12_works_401 : decode cX12_works 401 = .ok (.iconst 0, 1) := by decide +kernel
theorem dX12_works_402 : decode cX12_works 402 = .ok (.invokestatic 336, 3) := by decide +kernel
theorem dX12_works_405 : decode cX12_works 405 = .ok (.lstore 6, 2) := by decide +kernel
theorem dX12_works_407 : decode cX12_works 407 = .ok (.aload_n 0, 1) := by decide +kernel
theorem dX12_works_408 : decode cX12_works 408 = .ok (.getfield 80, 3) := by decide +kernel
theorem dX12_works_411 : decode cX12_works 411 = .ok (.aload_n 0, 1) := by decide +kernel
theorem dX12_works_412 : decode cX12_works 412 = .ok (.getfield 333, 3) := by decide +kernel
theorem dX12_works_415 : decode cX12_works 415 = .ok (.iconst 1, 1) := by decide +kernel
theorem dX12_works_416 : decode cX12_works 416 = .ok (.isub, 1) := by decide +kernel
theorem dX12_works_417 : decode cX12_works 417 = .ok (.lload 6, 2) := by decide +kernel
theorem dX12_works_419 : decode cX12_works 419 = .ok (.lastore, 1) := by decide +kernel
theorem dX12_works_420 : decode cX12_works 420 = .ok (.lload 6, 2) := by decide +kernel
theorem dX12_works_422 : decode cX12_works 422 = .ok (.ldc2_w 346, 3) := by decide +kernel
theorem dX12_works_425 : decode cX12_works 425 = .ok (.lcmp, 1) := by decide +kernel
theorem dX12_works_426 : decode cX12_works 426 = .ok (.ifCond .gt 16, 3) := by decide +kernel
theorem dX12_works_429 : decode cX12_works 429 = .ok (.lload 6, 2) := by decide +kernel
theorem dX12_works_431 : decode cX12_works 431 = .ok (.ldc2_w 348, 3) := by decide +kernel
theorem dX12_works_434 : decode cX12_works 434 = .ok (.lcmp, 1) := by decide +kernel
theorem dX12_works_435 : decode cX12_works 435 = .ok (.ifCond .lt 7, 3) := by decide +kernel
theorem dX12_works_438 : decode cX12_works 438 = .ok (.iconst 1, 1) := by decide +kernel
theorem dX12_works_439 : decode cX12_works 439 = .ok (.goto 4, 3) := by decide +kernel
theorem dX12_works_442 : decode cX12_works 442 = .ok (.iconst 0, 1) := by decide +kernel
theorem dX12_works_443 : decode cX12_works 443 = .ok (.ireturn, 1) := by decide +kernel
theorem dX12_noNames_0 : decode cX12_noNames 0 = .ok (.iconst 0, 1) := by decide +kernel
theorem dX12_noNames_1 : decode cX12_noNames 1 = .ok (.istore_n 1, 1) := by decide +kernel
theorem dX12_noNames_2 : decode cX12_noNames 2 = .ok (.iload_n 1, 1) := by decide +kernel
theorem dX12_noNames_3 : decode cX12_noNames 3 = .ok (.bipush 6, 2) := by decide +kernel
theorem dX12_noNames_5 : decode cX12_noNames 5 = .ok (.if_icmp .ge 16, 3) := by decide +kernel
theorem dX12_noNames_8 : decode cX12_noNames 8 = .ok (.aload_n 0, 1) := by decide +kernel
theorem dX12_noNames_9 : decode cX12_noNames 9 = .ok (.getfield 76, 3) := by decide +kernel
theorem dX12_noNames_12 : decode cX12_noNames 12 = .ok (.iload_n 1, 1) := by decide +kernel
theorem dX12_noNames_13 : decode cX12_noNames 13 = .ok (.lconst 0, 1) := by decide +kernel
theorem dX12_noNames_14 : decode cX12_noNames 14 = .ok (.lastore, 1) := by decide +kernel
theorem dX12_noNames_15 : decode cX12_noNames 15 = .ok (.iinc 1 1, 3) := by decide +kernel
theorem dX12_noNames_18 : decode cX12_noNames 18 = .ok (.goto (-16), 3) := by decide +kernel
theorem dX12_noNames_21 : decode cX12_noNames 21 = .ok (.return_, 1) := by decide +kernel
theorem dX12_hasLaw_0 : decode cX12_hasLaw 0 = .ok (.aload_n 0, 1) := by decide +kernel
theorem dX12_hasLaw_1 : decode cX12_hasLaw 1 = .ok (.getfield 63, 3) := by decide +kernel
theorem dX12_hasLaw_4 : decode cX12_hasLaw 4 = .ok (.iload_n 1, 1) := by decide +kernel
theorem dX12_hasLaw_5 : decode cX12_hasLaw 5 = .ok (.iaload, 1) := by decide +kernel
theorem dX12_hasLaw_6 : decode cX12_hasLaw 6 = .ok (.aload_n 0, 1) := by decide +kernel
theorem dX12_hasLaw_7 : decode cX12_hasLaw 7 = .ok (.getfield 60, 3) := by decide +kernel
theorem dX12_hasLaw_10 : decode cX12_hasLaw 10 = .ok (.iload_n 1, 1) := by decide +kernel
theorem dX12_hasLaw_11 : decode cX12_hasLaw 11 = .ok (.iaload, 1) := by decide +kernel
theorem dX12_hasLaw_12 : decode cX12_hasLaw 12 = .ok (.if_icmp .le 7, 3) := by decide +kernel
theorem dX12_hasLaw_15 : decode cX12_hasLaw 15 = .ok (.iconst 1, 1) := by decide +kernel
theorem dX12_hasLaw_16 : decode cX12_hasLaw 16 = .ok (.goto 4, 3) := by decide +kernel
theorem dX12_hasLaw_19 : decode cX12_hasLaw 19 = .ok (.iconst 0, 1) := by decide +kernel
theorem dX12_hasLaw_20 : decode cX12_hasLaw 20 = .ok (.ireturn, 1) := by decide +kernel
theorem dX12_law_0 : decode cX12_law 0 = .ok (.aload_n 0, 1) := by decide +kernel
theorem dX12_law_1 : decode cX12_law 1 = .ok (.iconst 0, 1) := by decide +kernel
theorem dX12_law_2 : decode cX12_law 2 = .ok (.putfield 333, 3) := by decide +kernel
theorem dX12_law_5 : decode cX12_law 5 = .ok (.aload_n 0, 1) := by decide +kernel
theorem dX12_law_6 : decode cX12_law 6 = .ok (.getfield 60, 3) := by decide +kernel
theorem dX12_law_9 : decode cX12_law 9 = .ok (.iload_n 1, 1) := by decide +kernel
theorem dX12_law_10 : decode cX12_law 10 = .ok (.iaload, 1) := by decide +kernel
theorem dX12_law_11 : decode cX12_law 11 = .ok (.istore 4, 2) := by decide +kernel
theorem dX12_law_13 : decode cX12_law 13 = .ok (.iload 4, 2) := by decide +kernel
theorem dX12_law_15 : decode cX12_law 15 = .ok (.aload_n 0, 1) := by decide +kernel
theorem dX12_law_16 : decode cX12_law 16 = .ok (.getfield 63, 3) := by decide +kernel
theorem dX12_law_19 : decode cX12_law 19 = .ok (.iload_n 1, 1) := by decide +kernel
theorem dX12_law_20 : decode cX12_law 20 = .ok (.iaload, 1) := by decide +kernel
theorem dX12_law_21 : decode cX12_law 21 = .ok (.if_icmp .ge 88, 3) := by decide +kernel
theorem dX12_law_24 : decode cX12_law 24 = .ok (.aload_n 0, 1) := by decide +kernel
theorem dX12_law_25 : decode cX12_law 25 = .ok (.getfield 66, 3) := by decide +kernel
theorem dX12_law_28 : decode cX12_law 28 = .ok (.iload 4, 2) := by decide +kernel
theorem dX12_law_30 : decode cX12_law 30 = .ok (.iaload, 1) := by decide +kernel
theorem dX12_law_31 : decode cX12_law 31 = .ok (.iconst 2, 1) := by decide +kernel
theorem dX12_law_32 : decode cX12_law 32 = .ok (.if_icmp .ne 19, 3) := by decide +kernel
theorem dX12_law_35 : decode cX12_law 35 = .ok (.aload_n 0, 1) := by decide +kernel
theorem dX12_law_36 : decode cX12_law 36 = .ok (.aload_n 0, 1) := by decide +kernel
theorem dX12_law_37 : decode cX12_law 37 = .ok (.getfield 69, 3) := by decide +kernel
theorem dX12_law_40 : decode cX12_law 40 = .ok (.iload 4, 2) := by decide +kernel
theorem dX12_law_42 : decode cX12_law 42 = .ok (.iaload, 1) := by decide +kernel
theorem dX12_law_43 : decode cX12_law 43 = .ok (.invokevirtual 350, 3) := by decide +kernel
theorem dX12_law_46 : decode cX12_law 46 = .ok (.ifCond .ne 57, 3) := by decide +kernel
theorem dX12_law_49 : decode cX12_law 49 = .ok (.lload_n 2, 1) := by decide +kernel
theorem dX12_law_50 : decode cX12_law 50 = .ok (.lreturn, 1) := by decide +kernel
theorem dX12_law_51 : decode cX12_law 51 = .ok (.aload_n 0, 1) := by decide +kernel
theorem dX12_law_52 : decode cX12_law 52 = .ok (.getfield 80, 3) := by decide +kernel
theorem dX12_law_55 : decode cX12_law 55 = .ok (.aload_n 0, 1) := by decide +kernel
theorem dX12_law_56 : decode cX12_law 56 = .ok (.getfield 333, 3) := by decide +kernel
theorem dX12_law_59 : decode cX12_law 59 = .ok (.aload_n 0, 1) := by decide +kernel
theorem dX12_law_60 : decode cX12_law 60 = .ok (.getfield 66, 3) := by decide +kernel
theorem dX12_law_63 : decode cX12_law 63 = .ok (.iload 4, 2) := by decide +kernel
theorem dX12_law_65 : decode cX12_law 65 = .ok (.iaload, 1) := by decide +kernel
theorem dX12_law_66 : decode cX12_law 66 = .ok (.ifCond .ne 14, 3) := by decide +kernel
theorem dX12_law_69 : decode cX12_law 69 = .ok (.aload_n 0, 1) := by decide +kernel
theorem dX12_law_70 : decode cX12_law 70 = .ok (.getfield 69, 3) := by decide +kernel
theorem dX12_law_73 : decode cX12_law 73 = .ok (.iload 4, 2) := by decide +kernel
theorem dX12_law_75 : decode cX12_law 75 = .ok (.iaload, 1) := by decide +kernel
theorem dX12_law_76 : decode cX12_law 76 = .ok (.i2l, 1) := by decide +kernel
theorem dX12_law_77 : decode cX12_law 77 = .ok (.goto 15, 3) := by decide +kernel
theorem dX12_law_80 : decode cX12_law 80 = .ok (.aload_n 0, 1) := by decide +kernel
theorem dX12_law_81 : decode cX12_law 81 = .ok (.getfield 76, 3) := by decide +kernel
theorem dX12_law_84 : decode cX12_law 84 = .ok (.aload_n 0, 1) := by decide +kernel
theorem dX12_law_85 : decode cX12_law 85 = .ok (.getfield 69, 3) := by decide +kernel
theorem dX12_law_88 : decode cX12_law 88 = .ok (.iload 4, 2) := by decide +kernel
theorem dX12_law_90 : decode cX12_law 90 = .ok (.iaload, 1) := by decide +kernel
theorem dX12_law_91 : decode cX12_law 91 = .ok (.laload, 1) := by decide +kernel
theorem dX12_law_92 : decode cX12_law 92 = .ok (.lastore, 1) := by decide +kernel
theorem dX12_law_93 : decode cX12_law 93 = .ok (.aload_n 0, 1) := by decide +kernel
theorem dX12_law_94 : decode cX12_law 94 = .ok (.dup, 1) := by decide +kernel
theorem dX12_law_95 : decode cX12_law 95 = .ok (.getfield 333, 3) := by decide +kernel
theorem dX12_law_98 : decode cX12_law 98 = .ok (.iconst 1, 1) := by decide +kernel
theorem dX12_law_99 : decode cX12_law 99 = .ok (.iadd, 1) := by decide +kernel
theorem dX12_law_100 : decode cX12_law 100 = .ok (.putfield 333, 3) := by decide +kernel
theorem dX12_law_103 : decode cX12_law 103 = .ok (.iinc 4 1, 3) := by decide +kernel
theorem dX12_law_106 : decode cX12_law 106 = .ok (.goto (-93), 3) := by decide +kernel
theorem dX12_law_109 : decode cX12_law 109 = .ok (.lconst 0, 1) := by decide +kernel
theorem dX12_law_110 : decode cX12_law 110 = .ok (.aload_n 0, 1) := by decide +kernel
theorem dX12_law_111 : decode cX12_law 111 = .ok (.getfield 80, 3) := by decide +kernel
theorem dX12_law_114 : decode cX12_law 114 = .ok (.iconst 0, 1) := by decide +kernel
theorem dX12_law_115 : decode cX12_law 115 = .ok (.laload, 1) := by decide +kernel
theorem dX12_law_116 : decode cX12_law 116 = .ok (.invokestatic 353, 3) := by decide +kernel
theorem dX12_law_119 : decode cX12_law 119 = .ok (.lreturn, 1) := by decide +kernel
theorem dX12_carriesBy_0 : decode cX12_carriesBy 0 = .ok (.aload_n 0, 1) := by decide +kernel
theorem dX12_carriesBy_1 : decode cX12_carriesBy 1 = .ok (.invokevirtual 357, 3) := by decide +kernel
theorem dX12_carriesBy_4 : decode cX12_carriesBy 4 = .ok (.aload_n 0, 1) := by decide +kernel
theorem dX12_carriesBy_5 : decode cX12_carriesBy 5 = .ok (.getfield 76, 3) := by decide +kernel
theorem dX12_carriesBy_8 : decode cX12_carriesBy 8 = .ok (.iconst 0, 1) := by decide +kernel
theorem dX12_carriesBy_9 : decode cX12_carriesBy 9 = .ok (.aload_n 0, 1) := by decide +kernel
theorem dX12_carriesBy_10 : decode cX12_carriesBy 10 = .ok (.getfield 45, 3) := by decide +kernel
theorem dX12_carriesBy_13 : decode cX12_carriesBy 13 = .ok (.iload_n 1, 1) := by decide +kernel
theorem dX12_carriesBy_14 : decode cX12_carriesBy 14 = .ok (.iaload, 1) := by decide +kernel
theorem dX12_carriesBy_15 : decode cX12_carriesBy 15 = .ok (.i2l, 1) := by decide +kernel
theorem dX12_carriesBy_16 : decode cX12_carriesBy 16 = .ok (.lastore, 1) := by decide +kernel
theorem dX12_carriesBy_17 : decode cX12_carriesBy 17 = .ok (.aload_n 0, 1) := by decide +kernel
theorem dX12_carriesBy_18 : decode cX12_carriesBy 18 = .ok (.getfield 76, 3) := by decide +kernel
theorem dX12_carriesBy_21 : decode cX12_carriesBy 21 = .ok (.iconst 1, 1) := by decide +kernel
theorem dX12_carriesBy_22 : decode cX12_carriesBy 22 = .ok (.iload_n 3, 1) := by decide +kernel
theorem dX12_carriesBy_23 : decode cX12_carriesBy 23 = .ok (.aload_n 0, 1) := by decide +kernel
theorem dX12_carriesBy_24 : decode cX12_carriesBy 24 = .ok (.getfield 36, 3) := by decide +kernel
theorem dX12_carriesBy_27 : decode cX12_carriesBy 27 = .ok (.iload_n 2, 1) := by decide +kernel
theorem dX12_carriesBy_28 : decode cX12_carriesBy 28 = .ok (.iaload, 1) := by decide +kernel
theorem dX12_carriesBy_29 : decode cX12_carriesBy 29 = .ok (.idiv, 1) := by decide +kernel
theorem dX12_carriesBy_30 : decode cX12_carriesBy 30 = .ok (.i2l, 1) := by decide +kernel
theorem dX12_carriesBy_31 : decode cX12_carriesBy 31 = .ok (.lastore, 1) := by decide +kernel
theorem dX12_carriesBy_32 : decode cX12_carriesBy 32 = .ok (.aload_n 0, 1) := by decide +kernel
theorem dX12_carriesBy_33 : decode cX12_carriesBy 33 = .ok (.iconst 0, 1) := by decide +kernel
theorem dX12_carriesBy_34 : decode cX12_carriesBy 34 = .ok (.invokevirtual 360, 3) := by decide +kernel
theorem dX12_carriesBy_37 : decode cX12_carriesBy 37 = .ok (.ifCond .eq 12, 3) := by decide +kernel
theorem dX12_carriesBy_40 : decode cX12_carriesBy 40 = .ok (.aload_n 0, 1) := by decide +kernel
theorem dX12_carriesBy_41 : decode cX12_carriesBy 41 = .ok (.iconst 0, 1) := by decide +kernel
theorem dX12_carriesBy_42 : decode cX12_carriesBy 42 = .ok (.lconst 0, 1) := by decide +kernel
theorem dX12_carriesBy_43 : decode cX12_carriesBy 43 = .ok (.invokevirtual 363, 3) := by decide +kernel
theorem dX12_carriesBy_46 : decode cX12_carriesBy 46 = .ok (.goto 20, 3) := by decide +kernel
theorem dX12_carriesBy_49 : decode cX12_carriesBy 49 = .ok (.lconst 0, 1) := by decide +kernel
theorem dX12_carriesBy_50 : decode cX12_carriesBy 50 = .ok (.aload_n 0, 1) := by decide +kernel
theorem dX12_carriesBy_51 : decode cX12_carriesBy 51 = .ok (.getfield 76, 3) := by decide +kernel
theorem dX12_carriesBy_54 : decode cX12_carriesBy 54 = .ok (.iconst 0, 1) := by decide +kernel
theorem dX12_carriesBy_55 : decode cX12_carriesBy 55 = .ok (.laload, 1) := by decide +kernel
theorem dX12_carriesBy_56 : decode cX12_carriesBy 56 = .ok (.aload_n 0, 1) := by decide +kernel
theorem dX12_carriesBy_57 : decode cX12_carriesBy 57 = .ok (.getfield 76, 3) := by decide +kernel
theorem dX12_carriesBy_60 : decode cX12_carriesBy 60 = .ok (.iconst 1, 1) := by decide +kernel
theorem dX12_carriesBy_61 : decode cX12_carriesBy 61 = .ok (.laload, 1) := by decide +kernel
theorem dX12_carriesBy_62 : decode cX12_carriesBy 62 = .ok (.lmul, 1) := by decide +kernel
theorem dX12_carriesBy_63 : decode cX12_carriesBy 63 = .ok (.invokestatic 353, 3) := by decide +kernel
theorem dX12_carriesBy_66 : decode cX12_carriesBy 66 = .ok (.lreturn, 1) := by decide +kernel
theorem dX12_costBy_0 : decode cX12_costBy 0 = .ok (.aload_n 0, 1) := by decide +kernel
theorem dX12_costBy_1 : decode cX12_costBy 1 = .ok (.invokevirtual 357, 3) := by decide +kernel
theorem dX12_costBy_4 : decode cX12_costBy 4 = .ok (.iload 4, 2) := by decide +kernel
theorem dX12_costBy_6 : decode cX12_costBy 6 = .ok (.iload 5, 2) := by decide +kernel
theorem dX12_costBy_8 : decode cX12_costBy 8 = .ok (.iadd, 1) := by decide +kernel
theorem dX12_costBy_9 : decode cX12_costBy 9 = .ok (.iconst 2, 1) := by decide +kernel
theorem dX12_costBy_10 : decode cX12_costBy 10 = .ok (.idiv, 1) := by decide +kernel
theorem dX12_costBy_11 : decode cX12_costBy 11 = .ok (.istore 6, 2) := by decide +kernel
theorem dX12_costBy_13 : decode cX12_costBy 13 = .ok (.aload_n 0, 1) := by decide +kernel
theorem dX12_costBy_14 : decode cX12_costBy 14 = .ok (.getfield 76, 3) := by decide +kernel
theorem dX12_costBy_17 : decode cX12_costBy 17 = .ok (.iconst 0, 1) := by decide +kernel
theorem dX12_costBy_18 : decode cX12_costBy 18 = .ok (.aload_n 0, 1) := by decide +kernel
theorem dX12_costBy_19 : decode cX12_costBy 19 = .ok (.getfield 45, 3) := by decide +kernel
theorem dX12_costBy_22 : decode cX12_costBy 22 = .ok (.iload_n 2, 1) := by decide +kernel
theorem dX12_costBy_23 : decode cX12_costBy 23 = .ok (.iaload, 1) := by decide +kernel
theorem dX12_costBy_24 : decode cX12_costBy 24 = .ok (.i2l, 1) := by decide +kernel
theorem dX12_costBy_25 : decode cX12_costBy 25 = .ok (.lastore, 1) := by decide +kernel
theorem dX12_costBy_26 : decode cX12_costBy 26 = .ok (.aload_n 0, 1) := by decide +kernel
theorem dX12_costBy_27 : decode cX12_costBy 27 = .ok (.getfield 76, 3) := by decide +kernel
theorem dX12_costBy_30 : decode cX12_costBy 30 = .ok (.iconst 2, 1) := by decide +kernel
theorem dX12_costBy_31 : decode cX12_costBy 31 = .ok (.iload 6, 2) := by decide +kernel
theorem dX12_costBy_33 : decode cX12_costBy 33 = .ok (.i2l, 1) := by decide +kernel
theorem dX12_costBy_34 : decode cX12_costBy 34 = .ok (.lastore, 1) := by decide +kernel
theorem dX12_costBy_35 : decode cX12_costBy 35 = .ok (.aload_n 0, 1) := by decide +kernel
theorem dX12_costBy_36 : decode cX12_costBy 36 = .ok (.getfield 76, 3) := by decide +kernel
theorem dX12_costBy_39 : decode cX12_costBy 39 = .ok (.iconst 3, 1) := by decide +kernel
theorem dX12_costBy_40 : decode cX12_costBy 40 = .ok (.iconst 0, 1) := by decide +kernel
theorem dX12_costBy_41 : decode cX12_costBy 41 = .ok (.iload 6, 2) := by decide +kernel
theorem dX12_costBy_43 : decode cX12_costBy 43 = .ok (.aload_n 0, 1) := by decide +kernel
theorem dX12_costBy_44 : decode cX12_costBy 44 = .ok (.getfield 27, 3) := by decide +kernel
theorem dX12_costBy_47 : decode cX12_costBy 47 = .ok (.iload_n 1, 1) := by decide +kernel
theorem dX12_costBy_48 : decode cX12_costBy 48 = .ok (.iaload, 1) := by decide +kernel
theorem dX12_costBy_49 : decode cX12_costBy 49 = .ok (.isub, 1) := by decide +kernel
theorem dX12_costBy_50 : decode cX12_costBy 50 = .ok (.invokestatic 367, 3) := by decide +kernel
theorem dX12_costBy_53 : decode cX12_costBy 53 = .ok (.i2l, 1) := by decide +kernel
theorem dX12_costBy_54 : decode cX12_costBy 54 = .ok (.lastore, 1) := by decide +kernel
theorem dX12_costBy_55 : decode cX12_costBy 55 = .ok (.aload_n 0, 1) := by decide +kernel
theorem dX12_costBy_56 : decode cX12_costBy 56 = .ok (.getfield 36, 3) := by decide +kernel
theorem dX12_costBy_59 : decode cX12_costBy 59 = .ok (.iload_n 3, 1) := by decide +kernel
theorem dX12_costBy_60 : decode cX12_costBy 60 = .ok (.iaload, 1) := by decide +kernel
theorem dX12_costBy_61 : decode cX12_costBy 61 = .ok (.i2l, 1) := by decide +kernel
theorem dX12_costBy_62 : decode cX12_costBy 62 = .ok (.aload_n 0, 1) := by decide +kernel
theorem dX12_costBy_63 : decode cX12_costBy 63 = .ok (.getfield 48, 3) := by decide +kernel
theorem dX12_costBy_66 : decode cX12_costBy 66 = .ok (.iload_n 2, 1) := by decide +kernel
theorem dX12_costBy_67 : decode cX12_costBy 67 = .ok (.iaload, 1) := by decide +kernel
theorem dX12_costBy_68 : decode cX12_costBy 68 = .ok (.i2l, 1) := by decide +kernel
theorem dX12_costBy_69 : decode cX12_costBy 69 = .ok (.aload_n 0, 1) := by decide +kernel
theorem dX12_costBy_70 : decode cX12_costBy 70 = .ok (.iconst 1, 1) := by decide +kernel
theorem dX12_costBy_71 : decode cX12_costBy 71 = .ok (.invokevirtual 360, 3) := by decide +kernel
theorem dX12_costBy_74 : decode cX12_costBy 74 = .ok (.ifCond .eq 14, 3) := by decide +kernel
theorem dX12_costBy_77 : decode cX12_costBy 77 = .ok (.aload_n 0, 1) := by decide +kernel
theorem dX12_costBy_78 : decode cX12_costBy 78 = .ok (.iconst 1, 1) := by decide +kernel
theorem dX12_costBy_79 : decode cX12_costBy 79 = .ok (.ldc2_w 369, 3) := by decide +kernel
theorem dX12_costBy_82 : decode cX12_costBy 82 = .ok (.invokevirtual 363, 3) := by decide +kernel
theorem dX12_costBy_85 : decode cX12_costBy 85 = .ok (.goto 6, 3) := by decide +kernel
theorem dX12_costBy_88 : decode cX12_costBy 88 = .ok (.iload 6, 2) := by decide +kernel
theorem dX12_costBy_90 : decode cX12_costBy 90 = .ok (.i2l, 1) := by decide +kernel
theorem dX12_costBy_91 : decode cX12_costBy 91 = .ok (.ladd, 1) := by decide +kernel
theorem dX12_costBy_92 : decode cX12_costBy 92 = .ok (.lmul, 1) := by decide +kernel
theorem dX12_costBy_93 : decode cX12_costBy 93 = .ok (.lreturn, 1) := by decide +kernel
theorem dX12_pumpBy_0 : decode cX12_pumpBy 0 = .ok (.iload_n 1, 1) := by decide +kernel
theorem dX12_pumpBy_1 : decode cX12_pumpBy 1 = .ok (.ifCond .eq 11, 3) := by decide +kernel
theorem dX12_pumpBy_4 : decode cX12_pumpBy 4 = .ok (.aload_n 0, 1) := by decide +kernel
theorem dX12_pumpBy_5 : decode cX12_pumpBy 5 = .ok (.iconst 2, 1) := by decide +kernel
theorem dX12_pumpBy_6 : decode cX12_pumpBy 6 = .ok (.invokevirtual 360, 3) := by decide +kernel
theorem dX12_pumpBy_9 : decode cX12_pumpBy 9 = .ok (.ifCond .ne 5, 3) := by decide +kernel
theorem dX12_pumpBy_12 : decode cX12_pumpBy 12 = .ok (.lconst 0, 1) := by decide +kernel
theorem dX12_pumpBy_13 : decode cX12_pumpBy 13 = .ok (.lreturn, 1) := by decide +kernel
theorem dX12_pumpBy_14 : decode cX12_pumpBy 14 = .ok (.aload_n 0, 1) := by decide +kernel
theorem dX12_pumpBy_15 : decode cX12_pumpBy 15 = .ok (.invokevirtual 357, 3) := by decide +kernel
theorem dX12_pumpBy_18 : decode cX12_pumpBy 18 = .ok (.aload_n 0, 1) := by decide +kernel
theorem dX12_pumpBy_19 : decode cX12_pumpBy 19 = .ok (.getfield 76, 3) := by decide +kernel
theorem dX12_pumpBy_22 : decode cX12_pumpBy 22 = .ok (.iconst 4, 1) := by decide +kernel
theorem dX12_pumpBy_23 : decode cX12_pumpBy 23 = .ok (.iload_n 1, 1) := by decide +kernel
theorem dX12_pumpBy_24 : decode cX12_pumpBy 24 = .ok (.i2l, 1) := by decide +kernel
theorem dX12_pumpBy_25 : decode cX12_pumpBy 25 = .ok (.lastore, 1) := by decide +kernel
theorem dX12_pumpBy_26 : decode cX12_pumpBy 26 = .ok (.aload_n 0, 1) := by decide +kernel
theorem dX12_pumpBy_27 : decode cX12_pumpBy 27 = .ok (.getfield 76, 3) := by decide +kernel
theorem dX12_pumpBy_30 : decode cX12_pumpBy 30 = .ok (.iconst 5, 1) := by decide +kernel
theorem dX12_pumpBy_31 : decode cX12_pumpBy 31 = .ok (.lload_n 2, 1) := by decide +kernel
theorem dX12_pumpBy_32 : decode cX12_pumpBy 32 = .ok (.lastore, 1) := by decide +kernel
theorem dX12_pumpBy_33 : decode cX12_pumpBy 33 = .ok (.aload_n 0, 1) := by decide +kernel
theorem dX12_pumpBy_34 : decode cX12_pumpBy 34 = .ok (.iconst 2, 1) := by decide +kernel
theorem dX12_pumpBy_35 : decode cX12_pumpBy 35 = .ok (.ldc2_w 369, 3) := by decide +kernel
theorem dX12_pumpBy_38 : decode cX12_pumpBy 38 = .ok (.invokevirtual 363, 3) := by decide +kernel
theorem dX12_pumpBy_41 : decode cX12_pumpBy 41 = .ok (.lreturn, 1) := by decide +kernel
theorem dX12_isLaid_0 : decode cX12_isLaid 0 = .ok (.aload_n 0, 1) := by decide +kernel
theorem dX12_isLaid_1 : decode cX12_isLaid 1 = .ok (.getfield 83, 3) := by decide +kernel
theorem dX12_isLaid_4 : decode cX12_isLaid 4 = .ok (.bipush 7, 2) := by decide +kernel
theorem dX12_isLaid_6 : decode cX12_isLaid 6 = .ok (.aload_n 0, 1) := by decide +kernel
theorem dX12_isLaid_7 : decode cX12_isLaid 7 = .ok (.getfield 371, 3) := by decide +kernel
theorem dX12_isLaid_10 : decode cX12_isLaid 10 = .ok (.imul, 1) := by decide +kernel
theorem dX12_isLaid_11 : decode cX12_isLaid 11 = .ok (.iload_n 1, 1) := by decide +kernel
theorem dX12_isLaid_12 : decode cX12_isLaid 12 = .ok (.iadd, 1) := by decide +kernel
theorem dX12_isLaid_13 : decode cX12_isLaid 13 = .ok (.iaload, 1) := by decide +kernel
theorem dX12_isLaid_14 : decode cX12_isLaid 14 = .ok (.iconst (-1), 1) := by decide +kernel
theorem dX12_isLaid_15 : decode cX12_isLaid 15 = .ok (.if_icmp .eq 7, 3) := by decide +kernel
theorem dX12_isLaid_18 : decode cX12_isLaid 18 = .ok (.iconst 1, 1) := by decide +kernel
theorem dX12_isLaid_19 : decode cX12_isLaid 19 = .ok (.goto 4, 3) := by decide +kernel
theorem dX12_isLaid_22 : decode cX12_isLaid 22 = .ok (.iconst 0, 1) := by decide +kernel
theorem dX12_isLaid_23 : decode cX12_isLaid 23 = .ok (.ireturn, 1) := by decide +kernel
theorem dX12_streetOf_0 : decode cX12_streetOf 0 = .ok (.aload_n 0, 1) := by decide +kernel
theorem dX12_streetOf_1 : decode cX12_streetOf 1 = .ok (.getfield 83, 3) := by decide +kernel
theorem dX12_streetOf_4 : decode cX12_streetOf 4 = .ok (.bipush 7, 2) := by decide +kernel
theorem dX12_streetOf_6 : decode cX12_streetOf 6 = .ok (.aload_n 0, 1) := by decide +kernel
theorem dX12_streetOf_7 : decode cX12_streetOf 7 = .ok (.getfield 371, 3) := by decide +kernel
theorem dX12_streetOf_10 : decode cX12_streetOf 10 = .ok (.imul, 1) := by decide +kernel
theorem dX12_streetOf_11 : decode cX12_streetOf 11 = .ok (.iload_n 1, 1) := by decide +kernel
theorem dX12_streetOf_12 : decode cX12_streetOf 12 = .ok (.iadd, 1) := by decide +kernel
theorem dX12_streetOf_13 : decode cX12_streetOf 13 = .ok (.iaload, 1) := by decide +kernel
theorem dX12_streetOf_14 : decode cX12_streetOf 14 = .ok (.ireturn, 1) := by decide +kernel
theorem dX12_pipeOf_0 : decode cX12_pipeOf 0 = .ok (.aload_n 0, 1) := by decide +kernel
theorem dX12_pipeOf_1 : decode cX12_pipeOf 1 = .ok (.getfield 86, 3) := by decide +kernel
theorem dX12_pipeOf_4 : decode cX12_pipeOf 4 = .ok (.bipush 7, 2) := by decide +kernel
theorem dX12_pipeOf_6 : decode cX12_pipeOf 6 = .ok (.aload_n 0, 1) := by decide +kernel
theorem dX12_pipeOf_7 : decode cX12_pipeOf 7 = .ok (.getfield 371, 3) := by decide +kernel
theorem dX12_pipeOf_10 : decode cX12_pipeOf 10 = .ok (.imul, 1) := by decide +kernel
theorem dX12_pipeOf_11 : decode cX12_pipeOf 11 = .ok (.iload_n 1, 1) := by decide +kernel
theorem dX12_pipeOf_12 : decode cX12_pipeOf 12 = .ok (.iadd, 1) := by decide +kernel
theorem dX12_pipeOf_13 : decode cX12_pipeOf 13 = .ok (.iaload, 1) := by decide +kernel
theorem dX12_pipeOf_14 : decode cX12_pipeOf 14 = .ok (.ireturn, 1) := by decide +kernel
theorem dX12_aOf_0 : decode cX12_aOf 0 = .ok (.aload_n 0, 1) := by decide +kernel
theorem dX12_aOf_1 : decode cX12_aOf 1 = .ok (.getfield 89, 3) := by decide +kernel
theorem dX12_aOf_4 : decode cX12_aOf 4 = .ok (.bipush 7, 2) := by decide +kernel
theorem dX12_aOf_6 : decode cX12_aOf 6 = .ok (.aload_n 0, 1) := by decide +kernel
theorem dX12_aOf_7 : decode cX12_aOf 7 = .ok (.getfield 371, 3) := by decide +kernel
theorem dX12_aOf_10 : decode cX12_aOf 10 = .ok (.imul, 1) := by decide +kernel
theorem dX12_aOf_11 : decode cX12_aOf 11 = .ok (.iload_n 1, 1) := by decide +kernel
theorem dX12_aOf_12 : decode cX12_aOf 12 = .ok (.iadd, 1) := by decide +kernel
theorem dX12_aOf_13 : decode cX12_aOf 13 = .ok (.iaload, 1) := by decide +kernel
theorem dX12_aOf_14 : decode cX12_aOf 14 = .ok (.ireturn, 1) := by decide +kernel
theorem dX12_bOf_0 : decode cX12_bOf 0 = .ok (.aload_n 0, 1) := by decide +kernel
theorem dX12_bOf_1 : decode cX12_bOf 1 = .ok (.getfield 92, 3) := by decide +kernel
theorem dX12_bOf_4 : decode cX12_bOf 4 = .ok (.bipush 7, 2) := by decide +kernel
theorem dX12_bOf_6 : decode cX12_bOf 6 = .ok (.aload_n 0, 1) := by decide +kernel
theorem dX12_bOf_7 : decode cX12_bOf 7 = .ok (.getfield 371, 3) := by decide +kernel
theorem dX12_bOf_10 : decode cX12_bOf 10 = .ok (.imul, 1) := by decide +kernel
theorem dX12_bOf_11 : decode cX12_bOf 11 = .ok (.iload_n 1, 1) := by decide +kernel
theorem dX12_bOf_12 : decode cX12_bOf 12 = .ok (.iadd, 1) := by decide +kernel
theorem dX12_bOf_13 : decode cX12_bOf 13 = .ok (.iaload, 1) := by decide +kernel
theorem dX12_bOf_14 : decode cX12_bOf 14 = .ok (.ireturn, 1) := by decide +kernel
theorem dX12_otherEnd_0 : decode cX12_otherEnd 0 = .ok (.aload_n 0, 1) := by decide +kernel
theorem dX12_otherEnd_1 : decode cX12_otherEnd 1 = .ok (.getfield 30, 3) := by decide +kernel
theorem dX12_otherEnd_4 : decode cX12_otherEnd 4 = .ok (.iload_n 1, 1) := by decide +kernel
theorem dX12_otherEnd_5 : decode cX12_otherEnd 5 = .ok (.iaload, 1) := by decide +kernel
theorem dX12_otherEnd_6 : decode cX12_otherEnd 6 = .ok (.iload_n 2, 1) := by decide +kernel
theorem dX12_otherEnd_7 : decode cX12_otherEnd 7 = .ok (.if_icmp .ne 12, 3) := by decide +kernel
theorem dX12_otherEnd_10 : decode cX12_otherEnd 10 = .ok (.aload_n 0, 1) := by decide +kernel
theorem dX12_otherEnd_11 : decode cX12_otherEnd 11 = .ok (.getfield 33, 3) := by decide +kernel
theorem dX12_otherEnd_14 : decode cX12_otherEnd 14 = .ok (.iload_n 1, 1) := by decide +kernel
theorem dX12_otherEnd_15 : decode cX12_otherEnd 15 = .ok (.iaload, 1) := by decide +kernel
theorem dX12_otherEnd_16 : decode cX12_otherEnd 16 = .ok (.goto 9, 3) := by decide +kernel
theorem dX12_otherEnd_19 : decode cX12_otherEnd 19 = .ok (.aload_n 0, 1) := by decide +kernel
theorem dX12_otherEnd_20 : decode cX12_otherEnd 20 = .ok (.getfield 30, 3) := by decide +kernel
theorem dX12_otherEnd_23 : decode cX12_otherEnd 23 = .ok (.iload_n 1, 1) := by decide +kernel
theorem dX12_otherEnd_24 : decode cX12_otherEnd 24 = .ok (.iaload, 1) := by decide +kernel
theorem dX12_otherEnd_25 : decode cX12_otherEnd 25 = .ok (.ireturn, 1) := by decide +kernel
theorem dX12_to_0 : decode cX12_to 0 = .ok (.aload_n 0, 1) := by decide +kernel
theorem dX12_to_1 : decode cX12_to 1 = .ok (.aload_n 0, 1) := by decide +kernel
theorem dX12_to_2 : decode cX12_to 2 = .ok (.iload_n 1, 1) := by decide +kernel
theorem dX12_to_3 : decode cX12_to 3 = .ok (.invokevirtual 374, 3) := by decide +kernel
theorem dX12_to_6 : decode cX12_to 6 = .ok (.iload_n 1, 1) := by decide +kernel
theorem dX12_to_7 : decode cX12_to 7 = .ok (.invokevirtual 377, 3) := by decide +kernel
theorem dX12_to_10 : decode cX12_to 10 = .ok (.ireturn, 1) := by decide +kernel
theorem dX12_runsTo_0 : decode cX12_runsTo 0 = .ok (.aload_n 0, 1) := by decide +kernel
theorem dX12_runsTo_1 : decode cX12_runsTo 1 = .ok (.iload_n 1, 1) := by decide +kernel
theorem dX12_runsTo_2 : decode cX12_runsTo 2 = .ok (.invokevirtual 380, 3) := by decide +kernel
theorem dX12_runsTo_5 : decode cX12_runsTo 5 = .ok (.ifCond .eq 16, 3) := by decide +kernel
theorem dX12_runsTo_8 : decode cX12_runsTo 8 = .ok (.aload_n 0, 1) := by decide +kernel
theorem dX12_runsTo_9 : decode cX12_runsTo 9 = .ok (.iload_n 1, 1) := by decide +kernel
theorem dX12_runsTo_10 : decode cX12_runsTo 10 = .ok (.invokevirtual 383, 3) := by decide +kernel
theorem dX12_runsTo_13 : decode cX12_runsTo 13 = .ok (.iload_n 2, 1) := by decide +kernel
theorem dX12_runsTo_14 : decode cX12_runsTo 14 = .ok (.if_icmp .ne 7, 3) := by decide +kernel
theorem dX12_runsTo_17 : decode cX12_runsTo 17 = .ok (.iconst 1, 1) := by decide +kernel
theorem dX12_runsTo_18 : decode cX12_runsTo 18 = .ok (.goto 4, 3) := by decide +kernel
theorem dX12_runsTo_21 : decode cX12_runsTo 21 = .ok (.iconst 0, 1) := by decide +kernel
theorem dX12_runsTo_22 : decode cX12_runsTo 22 = .ok (.ireturn, 1) := by decide +kernel
theorem dX12_fallBy_0 : decode cX12_fallBy 0 = .ok (.aload_n 0, 1) := by decide +kernel
theorem dX12_fallBy_1 : decode cX12_fallBy 1 = .ok (.getfield 21, 3) := by decide +kernel
theorem dX12_fallBy_4 : decode cX12_fallBy 4 = .ok (.iload_n 1, 1) := by decide +kernel
theorem dX12_fallBy_5 : decode cX12_fallBy 5 = .ok (.iaload, 1) := by decide +kernel
theorem dX12_fallBy_6 : decode cX12_fallBy 6 = .ok (.iload_n 3, 1) := by decide +kernel
theorem dX12_fallBy_7 : decode cX12_fallBy 7 = .ok (.isub, 1) := by decide +kernel
theorem dX12_fallBy_8 : decode cX12_fallBy 8 = .ok (.aload_n 0, 1) := by decide +kernel
theorem dX12_fallBy_9 : decode cX12_fallBy 9 = .ok (.getfield 21, 3) := by decide +kernel
theorem dX12_fallBy_12 : decode cX12_fallBy 12 = .ok (.aload_n 0, 1) := by decide +kernel
theorem dX12_fallBy_13 : decode cX12_fallBy 13 = .ok (.iload_n 2, 1) := by decide +kernel
theorem dX12_fallBy_14 : decode cX12_fallBy 14 = .ok (.iload_n 1, 1) := by decide +kernel
theorem dX12_fallBy_15 : decode cX12_fallBy 15 = .ok (.invokevirtual 377, 3) := by decide +kernel
theorem dX12_fallBy_18 : decode cX12_fallBy 18 = .ok (.iaload, 1) := by decide +kernel
theorem dX12_fallBy_19 : decode cX12_fallBy 19 = .ok (.isub, 1) := by decide +kernel
theorem dX12_fallBy_20 : decode cX12_fallBy 20 = .ok (.iload 4, 2) := by decide +kernel
theorem dX12_fallBy_22 : decode cX12_fallBy 22 = .ok (.iadd, 1) := by decide +kernel
theorem dX12_fallBy_23 : decode cX12_fallBy 23 = .ok (.ireturn, 1) := by decide +kernel
theorem dX12_fallOf_0 : decode cX12_fallOf 0 = .ok (.aload_n 0, 1) := by decide +kernel
theorem dX12_fallOf_1 : decode cX12_fallOf 1 = .ok (.iload_n 1, 1) := by decide +kernel
theorem dX12_fallOf_2 : decode cX12_fallOf 2 = .ok (.aload_n 0, 1) := by decide +kernel
theorem dX12_fallOf_3 : decode cX12_fallOf 3 = .ok (.iload_n 1, 1) := by decide +kernel
theorem dX12_fallOf_4 : decode cX12_fallOf 4 = .ok (.invokevirtual 374, 3) := by decide +kernel
theorem dX12_fallOf_7 : decode cX12_fallOf 7 = .ok (.aload_n 0, 1) := by decide +kernel
theorem dX12_fallOf_8 : decode cX12_fallOf 8 = .ok (.iload_n 1, 1) := by decide +kernel
theorem dX12_fallOf_9 : decode cX12_fallOf 9 = .ok (.invokevirtual 386, 3) := by decide +kernel
theorem dX12_fallOf_12 : decode cX12_fallOf 12 = .ok (.aload_n 0, 1) := by decide +kernel
theorem dX12_fallOf_13 : decode cX12_fallOf 13 = .ok (.iload_n 1, 1) := by decide +kernel
theorem dX12_fallOf_14 : decode cX12_fallOf 14 = .ok (.invokevirtual 389, 3) := by decide +kernel
theorem dX12_fallOf_17 : decode cX12_fallOf 17 = .ok (.invokevirtual 392, 3) := by decide +kernel
theorem dX12_fallOf_20 : decode cX12_fallOf 20 = .ok (.ireturn, 1) := by decide +kernel
theorem dX12_carriesOf_0 : decode cX12_carriesOf 0 = .ok (.aload_n 0, 1) := by decide +kernel
theorem dX12_carriesOf_1 : decode cX12_carriesOf 1 = .ok (.aload_n 0, 1) := by decide +kernel
theorem dX12_carriesOf_2 : decode cX12_carriesOf 2 = .ok (.iload_n 1, 1) := by decide +kernel
theorem dX12_carriesOf_3 : decode cX12_carriesOf 3 = .ok (.invokevirtual 396, 3) := by decide +kernel
theorem dX12_carriesOf_6 : decode cX12_carriesOf 6 = .ok (.aload_n 0, 1) := by decide +kernel
theorem dX12_carriesOf_7 : decode cX12_carriesOf 7 = .ok (.iload_n 1, 1) := by decide +kernel
theorem dX12_carriesOf_8 : decode cX12_carriesOf 8 = .ok (.invokevirtual 374, 3) := by decide +kernel
theorem dX12_carriesOf_11 : decode cX12_carriesOf 11 = .ok (.aload_n 0, 1) := by decide +kernel
theorem dX12_carriesOf_12 : decode cX12_carriesOf 12 = .ok (.iload_n 1, 1) := by decide +kernel
theorem dX12_carriesOf_13 : decode cX12_carriesOf 13 = .ok (.invokevirtual 399, 3) := by decide +kernel
theorem dX12_carriesOf_16 : decode cX12_carriesOf 16 = .ok (.invokevirtual 402, 3) := by decide +kernel
theorem dX12_carriesOf_19 : decode cX12_carriesOf 19 = .ok (.lreturn, 1) := by decide +kernel
theorem dX12_isRing_0 : decode cX12_isRing 0 = .ok (.iload_n 1, 1) := by decide +kernel
theorem dX12_isRing_1 : decode cX12_isRing 1 = .ok (.istore_n 2, 1) := by decide +kernel
theorem dX12_isRing_2 : decode cX12_isRing 2 = .ok (.iconst 0, 1) := by decide +kernel
theorem dX12_isRing_3 : decode cX12_isRing 3 = .ok (.istore_n 3, 1) := by decide +kernel
theorem dX12_isRing_4 : decode cX12_isRing 4 = .ok (.iload_n 3, 1) := by decide +kernel
theorem dX12_isRing_5 : decode cX12_isRing 5 = .ok (.aload_n 0, 1) := by decide +kernel
theorem dX12_isRing_6 : decode cX12_isRing 6 = .ok (.getfield 15, 3) := by decide +kernel
theorem dX12_isRing_9 : decode cX12_isRing 9 = .ok (.iconst 0, 1) := by decide +kernel
theorem dX12_isRing_10 : decode cX12_isRing 10 = .ok (.iaload, 1) := by decide +kernel
theorem dX12_isRing_11 : decode cX12_isRing 11 = .ok (.if_icmp .ge 30, 3) := by decide +kernel
theorem dX12_isRing_14 : decode cX12_isRing 14 = .ok (.aload_n 0, 1) := by decide +kernel
theorem dX12_isRing_15 : decode cX12_isRing 15 = .ok (.iload_n 2, 1) := by decide +kernel
theorem dX12_isRing_16 : decode cX12_isRing 16 = .ok (.invokevirtual 380, 3) := by decide +kernel
theorem dX12_isRing_19 : decode cX12_isRing 19 = .ok (.ifCond .eq 22, 3) := by decide +kernel
theorem dX12_isRing_22 : decode cX12_isRing 22 = .ok (.aload_n 0, 1) := by decide +kernel
theorem dX12_isRing_23 : decode cX12_isRing 23 = .ok (.iload_n 2, 1) := by decide +kernel
theorem dX12_isRing_24 : decode cX12_isRing 24 = .ok (.invokevirtual 383, 3) := by decide +kernel
theorem dX12_isRing_27 : decode cX12_isRing 27 = .ok (.istore_n 2, 1) := by decide +kernel
theorem dX12_isRing_28 : decode cX12_isRing 28 = .ok (.iload_n 2, 1) := by decide +kernel
theorem dX12_isRing_29 : decode cX12_isRing 29 = .ok (.iload_n 1, 1) := by decide +kernel
theorem dX12_isRing_30 : decode cX12_isRing 30 = .ok (.if_icmp .ne 5, 3) := by decide +kernel
theorem dX12_isRing_33 : decode cX12_isRing 33 = .ok (.iconst 1, 1) := by decide +kernel
theorem dX12_isRing_34 : decode cX12_isRing 34 = .ok (.ireturn, 1) := by decide +kernel
theorem dX12_isRing_35 : decode cX12_isRing 35 = .ok (.iinc 3 1, 3) := by decide +kernel
theorem dX12_isRing_38 : decode cX12_isRing 38 = .ok (.goto (-34), 3) := by decide +kernel
theorem dX12_isRing_41 : decode cX12_isRing 41 = .ok (.iconst 0, 1) := by decide +kernel
theorem dX12_isRing_42 : decode cX12_isRing 42 = .ok (.ireturn, 1) := by decide +kernel
theorem dX12_comesToRiver_0 : decode cX12_comesToRiver 0 = .ok (.iload_n 1, 1) := by decide +kernel
theorem dX12_comesToRiver_1 : decode cX12_comesToRiver 1 = .ok (.istore_n 2, 1) := by decide +kernel
theorem dX12_comesToRiver_2 : decode cX12_comesToRiver 2 = .ok (.iconst 0, 1) := by decide +kernel
theorem dX12_comesToRiver_3 : decode cX12_comesToRiver 3 = .ok (.istore_n 3, 1) := by decide +kernel
theorem dX12_comesToRiver_4 : decode cX12_comesToRiver 4 = .ok (.iload_n 3, 1) := by decide +kernel
theorem dX12_comesToRiver_5 : decode cX12_comesToRiver 5 = .ok (.aload_n 0, 1) := by decide +kernel
theorem dX12_comesToRiver_6 : decode cX12_comesToRiver 6 = .ok (.getfield 15, 3) := by decide +kernel
theorem dX12_comesToRiver_9 : decode cX12_comesToRiver 9 = .ok (.iconst 0, 1) := by decide +kernel
theorem dX12_comesToRiver_10 : decode cX12_comesToRiver 10 = .ok (.iaload, 1) := by decide +kernel
theorem dX12_comesToRiver_11 : decode cX12_comesToRiver 11 = .ok (.if_icmp .ge 33, 3) := by decide +kernel
theorem dX12_comesToRiver_14 : decode cX12_comesToRiver 14 = .ok (.iload_n 2, 1) := by decide +kernel
theorem dX12_comesToRiver_15 : decode cX12_comesToRiver 15 = .ok (.aload_n 0, 1) := by decide +kernel
theorem dX12_comesToRiver_16 : decode cX12_comesToRiver 16 = .ok (.getfield 15, 3) := by decide +kernel
theorem dX12_comesToRiver_19 : decode cX12_comesToRiver 19 = .ok (.iconst 4, 1) := by decide +kernel
theorem dX12_comesToRiver_20 : decode cX12_comesToRiver 20 = .ok (.iaload, 1) := by decide +kernel
theorem dX12_comesToRiver_21 : decode cX12_comesToRiver 21 = .ok (.if_icmp .eq 23, 3) := by decide +kernel
theorem dX12_comesToRiver_24 : decode cX12_comesToRiver 24 = .ok (.aload_n 0, 1) := by decide +kernel
theorem dX12_comesToRiver_25 : decode cX12_comesToRiver 25 = .ok (.iload_n 2, 1) := by decide +kernel
theorem dX12_comesToRiver_26 : decode cX12_comesToRiver 26 = .ok (.invokevirtual 380, 3) := by decide +kernel
theorem dX12_comesToRiver_29 : decode cX12_comesToRiver 29 = .ok (.ifCond .eq 15, 3) := by decide +kernel
theorem dX12_comesToRiver_32 : decode cX12_comesToRiver 32 = .ok (.aload_n 0, 1) := by decide +kernel
theorem dX12_comesToRiver_33 : decode cX12_comesToRiver 33 = .ok (.iload_n 2, 1) := by decide +kernel
theorem dX12_comesToRiver_34 : decode cX12_comesToRiver 34 = .ok (.invokevirtual 383, 3) := by decide +kernel
theorem dX12_comesToRiver_37 : decode cX12_comesToRiver 37 = .ok (.istore_n 2, 1) := by decide +kernel
theorem dX12_comesToRiver_38 : decode cX12_comesToRiver 38 = .ok (.iinc 3 1, 3) := by decide +kernel
theorem dX12_comesToRiver_41 : decode cX12_comesToRiver 41 = .ok (.goto (-37), 3) := by decide +kernel
theorem dX12_comesToRiver_44 : decode cX12_comesToRiver 44 = .ok (.iload_n 2, 1) := by decide +kernel
theorem dX12_comesToRiver_45 : decode cX12_comesToRiver 45 = .ok (.aload_n 0, 1) := by decide +kernel
theorem dX12_comesToRiver_46 : decode cX12_comesToRiver 46 = .ok (.getfield 15, 3) := by decide +kernel
theorem dX12_comesToRiver_49 : decode cX12_comesToRiver 49 = .ok (.iconst 4, 1) := by decide +kernel
theorem dX12_comesToRiver_50 : decode cX12_comesToRiver 50 = .ok (.iaload, 1) := by decide +kernel
theorem dX12_comesToRiver_51 : decode cX12_comesToRiver 51 = .ok (.if_icmp .ne 7, 3) := by decide +kernel
theorem dX12_comesToRiver_54 : decode cX12_comesToRiver 54 = .ok (.iconst 1, 1) := by decide +kernel
theorem dX12_comesToRiver_55 : decode cX12_comesToRiver 55 = .ok (.goto 4, 3) := by decide +kernel
theorem dX12_comesToRiver_58 : decode cX12_comesToRiver 58 = .ok (.iconst 0, 1) := by decide +kernel
theorem dX12_comesToRiver_59 : decode cX12_comesToRiver 59 = .ok (.ireturn, 1) := by decide +kernel
theorem dX12_atFlow_0 : decode cX12_atFlow 0 = .ok (.iload_n 0, 1) := by decide +kernel
theorem dX12_atFlow_1 : decode cX12_atFlow 1 = .ok (.iconst 4, 1) := by decide +kernel
theorem dX12_atFlow_2 : decode cX12_atFlow 2 = .ok (.imul, 1) := by decide +kernel
theorem dX12_atFlow_3 : decode cX12_atFlow 3 = .ok (.iload_n 1, 1) := by decide +kernel
theorem dX12_atFlow_4 : decode cX12_atFlow 4 = .ok (.iadd, 1) := by decide +kernel
theorem dX12_atFlow_5 : decode cX12_atFlow 5 = .ok (.bipush 30, 2) := by decide +kernel
theorem dX12_atFlow_7 : decode cX12_atFlow 7 = .ok (.imul, 1) := by decide +kernel
theorem dX12_atFlow_8 : decode cX12_atFlow 8 = .ok (.iload_n 2, 1) := by decide +kernel
theorem dX12_atFlow_9 : decode cX12_atFlow 9 = .ok (.iadd, 1) := by decide +kernel
theorem dX12_atFlow_10 : decode cX12_atFlow 10 = .ok (.ireturn, 1) := by decide +kernel
theorem dX12_run_0 : decode cX12_run 0 = .ok (.iconst 0, 1) := by decide +kernel
theorem dX12_run_1 : decode cX12_run 1 = .ok (.istore_n 2, 1) := by decide +kernel
theorem dX12_run_2 : decode cX12_run 2 = .ok (.iload_n 2, 1) := by decide +kernel
theorem dX12_run_3 : decode cX12_run 3 = .ok (.bipush 7, 2) := by decide +kernel
theorem dX12_run_5 : decode cX12_run 5 = .ok (.if_icmp .ge 16, 3) := by decide +kernel
theorem dX12_run_8 : decode cX12_run 8 = .ok (.aload_n 0, 1) := by decide +kernel
theorem dX12_run_9 : decode cX12_run 9 = .ok (.getfield 101, 3) := by decide +kernel
theorem dX12_run_12 : decode cX12_run 12 = .ok (.iload_n 2, 1) := by decide +kernel
theorem dX12_run_13 : decode cX12_run 13 = .ok (.iconst 0, 1) := by decide +kernel
theorem dX12_run_14 : decode cX12_run 14 = .ok (.bastore, 1) := by decide +kernel
theorem dX12_run_15 : decode cX12_run 15 = .ok (.iinc 2 1, 3) := by decide +kernel
theorem dX12_run_18 : decode cX12_run 18 = .ok (.goto (-16), 3) := by decide +kernel
theorem dX12_run_21 : decode cX12_run 21 = .ok (.iconst 0, 1) := by decide +kernel
theorem dX12_run_22 : decode cX12_run 22 = .ok (.istore_n 2, 1) := by decide +kernel
theorem dX12_run_23 : decode cX12_run 23 = .ok (.iload_n 2, 1) := by decide +kernel
theorem dX12_run_24 : decode cX12_run 24 = .ok (.aload_n 0, 1) := by decide +kernel
theorem dX12_run_25 : decode cX12_run 25 = .ok (.getfield 95, 3) := by decide +kernel
theorem dX12_run_28 : decode cX12_run 28 = .ok (.arraylength, 1) := by decide +kernel
theorem dX12_run_29 : decode cX12_run 29 = .ok (.if_icmp .ge 23, 3) := by decide +kernel
theorem dX12_run_32 : decode cX12_run 32 = .ok (.aload_n 0, 1) := by decide +kernel
theorem dX12_run_33 : decode cX12_run 33 = .ok (.getfield 95, 3) := by decide +kernel
theorem dX12_run_36 : decode cX12_run 36 = .ok (.iload_n 2, 1) := by decide +kernel
theorem dX12_run_37 : decode cX12_run 37 = .ok (.lconst 0, 1) := by decide +kernel
theorem dX12_run_38 : decode cX12_run 38 = .ok (.lastore, 1) := by decide +kernel
theorem dX12_run_39 : decode cX12_run 39 = .ok (.aload_n 0, 1) := by decide +kernel
theorem dX12_run_40 : decode cX12_run 40 = .ok (.getfield 98, 3) := by decide +kernel
theorem dX12_run_43 : decode cX12_run 43 = .ok (.iload_n 2, 1) := by decide +kernel
theorem dX12_run_44 : decode cX12_run 44 = .ok (.lconst 0, 1) := by decide +kernel
theorem dX12_run_45 : decode cX12_run 45 = .ok (.lastore, 1) := by decide +kernel
theorem dX12_run_46 : decode cX12_run 46 = .ok (.iinc 2 1, 3) := by decide +kernel
theorem dX12_run_49 : decode cX12_run 49 = .ok (.goto (-26), 3) := by decide +kernel
theorem dX12_run_52 : decode cX12_run 52 = .ok (.iconst 1, 1) := by decide +kernel
theorem dX12_run_53 : decode cX12_run 53 = .ok (.istore_n 2, 1) := by decide +kernel
theorem dX12_run_54 : decode cX12_run 54 = .ok (.iload_n 2, 1) := by decide +kernel
theorem dX12_run_55 : decode cX12_run 55 = .ok (.ifCond .eq 77, 3) := by decide +kernel
theorem dX12_run_58 : decode cX12_run 58 = .ok (.iconst 0, 1) := by decide +kernel
theorem dX12_run_59 : decode cX12_run 59 = .ok (.istore_n 2, 1) := by decide +kernel
theorem dX12_run_60 : decode cX12_run 60 = .ok (.iconst 0, 1) := by decide +kernel
theorem dX12_run_61 : decode cX12_run 61 = .ok (.istore_n 3, 1) := by decide +kernel
theorem dX12_run_62 : decode cX12_run 62 = .ok (.iload_n 3, 1) := by decide +kernel
theorem dX12_run_63 : decode cX12_run 63 = .ok (.aload_n 0, 1) := by decide +kernel
theorem dX12_run_64 : decode cX12_run 64 = .ok (.getfield 15, 3) := by decide +kernel
theorem dX12_run_67 : decode cX12_run 67 = .ok (.iconst 0, 1) := by decide +kernel
theorem dX12_run_68 : decode cX12_run 68 = .ok (.iaload, 1) := by decide +kernel
theorem dX12_run_69 : decode cX12_run 69 = .ok (.if_icmp .ge 60, 3) := by decide +kernel
theorem dX12_run_72 : decode cX12_run 72 = .ok (.aload_n 0, 1) := by decide +kernel
theorem dX12_run_73 : decode cX12_run 73 = .ok (.getfield 101, 3) := by decide +kernel
theorem dX12_run_76 : decode cX12_run 76 = .ok (.iload_n 3, 1) := by decide +kernel
theorem dX12_run_77 : decode cX12_run 77 = .ok (.baload, 1) := by decide +kernel
theorem dX12_run_78 : decode cX12_run 78 = .ok (.ifCond .ne 45, 3) := by decide +kernel
theorem dX12_run_81 : decode cX12_run 81 = .ok (.aload_n 0, 1) := by decide +kernel
theorem dX12_run_82 : decode cX12_run 82 = .ok (.iload_n 3, 1) := by decide +kernel
theorem dX12_run_83 : decode cX12_run 83 = .ok (.invokevirtual 380, 3) := by decide +kernel
theorem dX12_run_86 : decode cX12_run 86 = .ok (.ifCond .eq 37, 3) := by decide +kernel
theorem dX12_run_89 : decode cX12_run 89 = .ok (.aload_n 0, 1) := by decide +kernel
theorem dX12_run_90 : decode cX12_run 90 = .ok (.iload_n 3, 1) := by decide +kernel
theorem dX12_run_91 : decode cX12_run 91 = .ok (.invokevirtual 406, 3) := by decide +kernel
theorem dX12_run_94 : decode cX12_run 94 = .ok (.ifCond .ne 29, 3) := by decide +kernel
theorem dX12_run_97 : decode cX12_run 97 = .ok (.aload_n 0, 1) := by decide +kernel
theorem dX12_run_98 : decode cX12_run 98 = .ok (.iload_n 3, 1) := by decide +kernel
theorem dX12_run_99 : decode cX12_run 99 = .ok (.invokevirtual 409, 3) := by decide +kernel
theorem dX12_run_102 : decode cX12_run 102 = .ok (.ifCond .ne 6, 3) := by decide +kernel
theorem dX12_run_105 : decode cX12_run 105 = .ok (.goto 18, 3) := by decide +kernel
theorem dX12_run_108 : decode cX12_run 108 = .ok (.aload_n 0, 1) := by decide +kernel
theorem dX12_run_109 : decode cX12_run 109 = .ok (.iload_n 3, 1) := by decide +kernel
theorem dX12_run_110 : decode cX12_run 110 = .ok (.iload_n 1, 1) := by decide +kernel
theorem dX12_run_111 : decode cX12_run 111 = .ok (.invokevirtual 412, 3) := by decide +kernel
theorem dX12_run_114 : decode cX12_run 114 = .ok (.aload_n 0, 1) := by decide +kernel
theorem dX12_run_115 : decode cX12_run 115 = .ok (.getfield 101, 3) := by decide +kernel
theorem dX12_run_118 : decode cX12_run 118 = .ok (.iload_n 3, 1) := by decide +kernel
theorem dX12_run_119 : decode cX12_run 119 = .ok (.iconst 1, 1) := by decide +kernel
theorem dX12_run_120 : decode cX12_run 120 = .ok (.bastore, 1) := by decide +kernel
theorem dX12_run_121 : decode cX12_run 121 = .ok (.iconst 1, 1) := by decide +kernel
theorem dX12_run_122 : decode cX12_run 122 = .ok (.istore_n 2, 1) := by decide +kernel
theorem dX12_run_123 : decode cX12_run 123 = .ok (.iinc 3 1, 3) := by decide +kernel
theorem dX12_run_126 : decode cX12_run 126 = .ok (.goto (-64), 3) := by decide +kernel
theorem dX12_run_129 : decode cX12_run 129 = .ok (.goto (-75), 3) := by decide +kernel
theorem dX12_run_132 : decode cX12_run 132 = .ok (.return_, 1) := by decide +kernel
theorem dX12_isReady_0 : decode cX12_isReady 0 = .ok (.iconst 0, 1) := by decide +kernel
theorem dX12_isReady_1 : decode cX12_isReady 1 = .ok (.istore_n 2, 1) := by decide +kernel
theorem dX12_isReady_2 : decode cX12_isReady 2 = .ok (.iload_n 2, 1) := by decide +kernel
theorem dX12_isReady_3 : decode cX12_isReady 3 = .ok (.aload_n 0, 1) := by decide +kernel
theorem dX12_isReady_4 : decode cX12_isReady 4 = .ok (.getfield 15, 3) := by decide +kernel
theorem dX12_isReady_7 : decode cX12_isReady 7 = .ok (.iconst 0, 1) := by decide +kernel
theorem dX12_isReady_8 : decode cX12_isReady 8 = .ok (.iaload, 1) := by decide +kernel
theorem dX12_isReady_9 : decode cX12_isReady 9 = .ok (.if_icmp .ge 29, 3) := by decide +kernel
theorem dX12_isReady_12 : decode cX12_isReady 12 = .ok (.aload_n 0, 1) := by decide +kernel
theorem dX12_isReady_13 : decode cX12_isReady 13 = .ok (.iload_n 2, 1) := by decide +kernel
theorem dX12_isReady_14 : decode cX12_isReady 14 = .ok (.iload_n 1, 1) := by decide +kernel
theorem dX12_isReady_15 : decode cX12_isReady 15 = .ok (.invokevirtual 416, 3) := by decide +kernel
theorem dX12_isReady_18 : decode cX12_isReady 18 = .ok (.ifCond .eq 14, 3) := by decide +kernel
theorem dX12_isReady_21 : decode cX12_isReady 21 = .ok (.aload_n 0, 1) := by decide +kernel
theorem dX12_isReady_22 : decode cX12_isReady 22 = .ok (.getfield 101, 3) := by decide +kernel
theorem dX12_isReady_25 : decode cX12_isReady 25 = .ok (.iload_n 2, 1) := by decide +kernel
theorem dX12_isReady_26 : decode cX12_isReady 26 = .ok (.baload, 1) := by decide +kernel
theorem dX12_isReady_27 : decode cX12_isReady 27 = .ok (.ifCond .ne 5, 3) := by decide +kernel
theorem dX12_isReady_30 : decode cX12_isReady 30 = .ok (.iconst 0, 1) := by decide +kernel
theorem dX12_isReady_31 : decode cX12_isReady 31 = .ok (.ireturn, 1) := by decide +kernel
theorem dX12_isReady_32 : decode cX12_isReady 32 = .ok (.iinc 2 1, 3) := by decide +kernel
theorem dX12_isReady_35 : decode cX12_isReady 35 = .ok (.goto (-33), 3) := by decide +kernel
theorem dX12_isReady_38 : decode cX12_isReady 38 = .ok (.iconst 1, 1) := by decide +kernel
theorem dX12_isReady_39 : decode cX12_isReady 39 = .ok (.ireturn, 1) := by decide +kernel
theorem dX12_flowOf_0 : decode cX12_flowOf 0 = .ok (.iload_n 2, 1) := by decide +kernel
theorem dX12_flowOf_1 : decode cX12_flowOf 1 = .ok (.ifCond .eq 11, 3) := by decide +kernel
theorem dX12_flowOf_4 : decode cX12_flowOf 4 = .ok (.aload_n 0, 1) := by decide +kernel
theorem dX12_flowOf_5 : decode cX12_flowOf 5 = .ok (.iload_n 1, 1) := by decide +kernel
theorem dX12_flowOf_6 : decode cX12_flowOf 6 = .ok (.invokevirtual 419, 3) := by decide +kernel
theorem dX12_flowOf_9 : decode cX12_flowOf 9 = .ok (.goto 6, 3) := by decide +kernel
theorem dX12_flowOf_12 : decode cX12_flowOf 12 = .ok (.ldc2_w 423, 3) := by decide +kernel
theorem dX12_flowOf_15 : decode cX12_flowOf 15 = .ok (.lstore_n 3, 1) := by decide +kernel
theorem dX12_flowOf_16 : decode cX12_flowOf 16 = .ok (.iconst 0, 1) := by decide +kernel
theorem dX12_flowOf_17 : decode cX12_flowOf 17 = .ok (.istore 5, 2) := by decide +kernel
theorem dX12_flowOf_19 : decode cX12_flowOf 19 = .ok (.iload 5, 2) := by decide +kernel
theorem dX12_flowOf_21 : decode cX12_flowOf 21 = .ok (.aload_n 0, 1) := by decide +kernel
theorem dX12_flowOf_22 : decode cX12_flowOf 22 = .ok (.getfield 15, 3) := by decide +kernel
theorem dX12_flowOf_25 : decode cX12_flowOf 25 = .ok (.iconst 3, 1) := by decide +kernel
theorem dX12_flowOf_26 : decode cX12_flowOf 26 = .ok (.iaload, 1) := by decide +kernel
theorem dX12_flowOf_27 : decode cX12_flowOf 27 = .ok (.if_icmp .ge 181, 3) := by decide +kernel
theorem dX12_flowOf_30 : decode cX12_flowOf 30 = .ok (.iconst 0, 1) := by decide +kernel
theorem dX12_flowOf_31 : decode cX12_flowOf 31 = .ok (.istore 6, 2) := by decide +kernel
theorem dX12_flowOf_33 : decode cX12_flowOf 33 = .ok (.iload 6, 2) := by decide +kernel
theorem dX12_flowOf_35 : decode cX12_flowOf 35 = .ok (.bipush 30, 2) := by decide +kernel
theorem dX12_flowOf_37 : decode cX12_flowOf 37 = .ok (.if_icmp .ge 165, 3) := by decide +kernel
theorem dX12_flowOf_40 : decode cX12_flowOf 40 = .ok (.iload 6, 2) := by decide +kernel
theorem dX12_flowOf_42 : decode cX12_flowOf 42 = .ok (.aload_n 0, 1) := by decide +kernel
theorem dX12_flowOf_43 : decode cX12_flowOf 43 = .ok (.getfield 54, 3) := by decide +kernel
theorem dX12_flowOf_46 : decode cX12_flowOf 46 = .ok (.iload 5, 2) := by decide +kernel
theorem dX12_flowOf_48 : decode cX12_flowOf 48 = .ok (.iaload, 1) := by decide +kernel
theorem dX12_flowOf_49 : decode cX12_flowOf 49 = .ok (.if_icmp .ge 27, 3) := by decide +kernel
theorem dX12_flowOf_52 : decode cX12_flowOf 52 = .ok (.aload_n 0, 1) := by decide +kernel
theorem dX12_flowOf_53 : decode cX12_flowOf 53 = .ok (.getfield 24, 3) := by decide +kernel
theorem dX12_flowOf_56 : decode cX12_flowOf 56 = .ok (.iload_n 1, 1) := by decide +kernel
theorem dX12_flowOf_57 : decode cX12_flowOf 57 = .ok (.iaload, 1) := by decide +kernel
theorem dX12_flowOf_58 : decode cX12_flowOf 58 = .ok (.aload_n 0, 1) := by decide +kernel
theorem dX12_flowOf_59 : decode cX12_flowOf 59 = .ok (.getfield 57, 3) := by decide +kernel
theorem dX12_flowOf_62 : decode cX12_flowOf 62 = .ok (.bipush 6, 2) := by decide +kernel
theorem dX12_flowOf_64 : decode cX12_flowOf 64 = .ok (.iload 5, 2) := by decide +kernel
theorem dX12_flowOf_66 : decode cX12_flowOf 66 = .ok (.imul, 1) := by decide +kernel
theorem dX12_flowOf_67 : decode cX12_flowOf 67 = .ok (.iload 6, 2) := by decide +kernel
theorem dX12_flowOf_69 : decode cX12_flowOf 69 = .ok (.iadd, 1) := by decide +kernel
theorem dX12_flowOf_70 : decode cX12_flowOf 70 = .ok (.iaload, 1) := by decide +kernel
theorem dX12_flowOf_71 : decode cX12_flowOf 71 = .ok (.imul, 1) := by decide +kernel
theorem dX12_flowOf_72 : decode cX12_flowOf 72 = .ok (.i2l, 1) := by decide +kernel
theorem dX12_flowOf_73 : decode cX12_flowOf 73 = .ok (.goto 4, 3) := by decide +kernel
theorem dX12_flowOf_76 : decode cX12_flowOf 76 = .ok (.lconst 0, 1) := by decide +kernel
theorem dX12_flowOf_77 : decode cX12_flowOf 77 = .ok (.lstore 7, 2) := by decide +kernel
theorem dX12_flowOf_79 : decode cX12_flowOf 79 = .ok (.iconst 0, 1) := by decide +kernel
theorem dX12_flowOf_80 : decode cX12_flowOf 80 = .ok (.istore 9, 2) := by decide +kernel
theorem dX12_flowOf_82 : decode cX12_flowOf 82 = .ok (.iload 9, 2) := by decide +kernel
theorem dX12_flowOf_84 : decode cX12_flowOf 84 = .ok (.aload_n 0, 1) := by decide +kernel
theorem dX12_flowOf_85 : decode cX12_flowOf 85 = .ok (.getfield 15, 3) := by decide +kernel
theorem dX12_flowOf_88 : decode cX12_flowOf 88 = .ok (.iconst 0, 1) := by decide +kernel
theorem dX12_flowOf_89 : decode cX12_flowOf 89 = .ok (.iaload, 1) := by decide +kernel
theorem dX12_flowOf_90 : decode cX12_flowOf 90 = .ok (.if_icmp .ge 66, 3) := by decide +kernel
theorem dX12_flowOf_93 : decode cX12_flowOf 93 = .ok (.aload_n 0, 1) := by decide +kernel
theorem dX12_flowOf_94 : decode cX12_flowOf 94 = .ok (.iload 9, 2) := by decide +kernel
theorem dX12_flowOf_96 : decode cX12_flowOf 96 = .ok (.iload_n 1, 1) := by decide +kernel
theorem dX12_flowOf_97 : decode cX12_flowOf 97 = .ok (.invokevirtual 416, 3) := by decide +kernel
theorem dX12_flowOf_100 : decode cX12_flowOf 100 = .ok (.ifCond .eq 50, 3) := by decide +kernel
theorem dX12_flowOf_103 : decode cX12_flowOf 103 = .ok (.iload 6, 2) := by decide +kernel
theorem dX12_flowOf_105 : decode cX12_flowOf 105 = .ok (.aload_n 0, 1) := by decide +kernel
theorem dX12_flowOf_106 : decode cX12_flowOf 106 = .ok (.getfield 39, 3) := by decide +kernel
theorem dX12_flowOf_109 : decode cX12_flowOf 109 = .ok (.aload_n 0, 1) := by decide +kernel
theorem dX12_flowOf_110 : decode cX12_flowOf 110 = .ok (.iload 9, 2) := by decide +kernel
theorem dX12_flowOf_112 : decode cX12_flowOf 112 = .ok (.invokevirtual 374, 3) := by decide +kernel
theorem dX12_flowOf_115 : decode cX12_flowOf 115 = .ok (.iaload, 1) := by decide +kernel
theorem dX12_flowOf_116 : decode cX12_flowOf 116 = .ok (.if_icmp .lt 34, 3) := by decide +kernel
theorem dX12_flowOf_119 : decode cX12_flowOf 119 = .ok (.lload 7, 2) := by decide +kernel
theorem dX12_flowOf_121 : decode cX12_flowOf 121 = .ok (.aload_n 0, 1) := by decide +kernel
theorem dX12_flowOf_122 : decode cX12_flowOf 122 = .ok (.getfield 95, 3) := by decide +kernel
theorem dX12_flowOf_125 : decode cX12_flowOf 125 = .ok (.iload 9, 2) := by decide +kernel
theorem dX12_flowOf_127 : decode cX12_flowOf 127 = .ok (.iload 5, 2) := by decide +kernel
theorem dX12_flowOf_129 : decode cX12_flowOf 129 = .ok (.iload 6, 2) := by decide +kernel
theorem dX12_flowOf_131 : decode cX12_flowOf 131 = .ok (.aload_n 0, 1) := by decide +kernel
theorem dX12_flowOf_132 : decode cX12_flowOf 132 = .ok (.getfield 39, 3) := by decide +kernel
theorem dX12_flowOf_135 : decode cX12_flowOf 135 = .ok (.aload_n 0, 1) := by decide +kernel
theorem dX12_flowOf_136 : decode cX12_flowOf 136 = .ok (.iload 9, 2) := by decide +kernel
theorem dX12_flowOf_138 : decode cX12_flowOf 138 = .ok (.invokevirtual 374, 3) := by decide +kernel
theorem dX12_flowOf_141 : decode cX12_flowOf 141 = .ok (.iaload, 1) := by decide +kernel
theorem dX12_flowOf_142 : decode cX12_flowOf 142 = .ok (.isub, 1) := by decide +kernel
theorem dX12_flowOf_143 : decode cX12_flowOf 143 = .ok (.invokestatic 425, 3) := by decide +kernel
theorem dX12_flowOf_146 : decode cX12_flowOf 146 = .ok (.laload, 1) := by decide +kernel
theorem dX12_flowOf_147 : decode cX12_flowOf 147 = .ok (.ladd, 1) := by decide +kernel
theorem dX12_flowOf_148 : decode cX12_flowOf 148 = .ok (.lstore 7, 2) := by decide +kernel
theorem dX12_flowOf_150 : decode cX12_flowOf 150 = .ok (.iinc 9 1, 3) := by decide +kernel
theorem dX12_flowOf_153 : decode cX12_flowOf 153 = .ok (.goto (-71), 3) := by decide +kernel
theorem dX12_flowOf_156 : decode cX12_flowOf 156 = .ok (.aload_n 0, 1) := by decide +kernel
theorem dX12_flowOf_157 : decode cX12_flowOf 157 = .ok (.getfield 95, 3) := by decide +kernel
theorem dX12_flowOf_160 : decode cX12_flowOf 160 = .ok (.iload_n 1, 1) := by decide +kernel
theorem dX12_flowOf_161 : decode cX12_flowOf 161 = .ok (.iload 5, 2) := by decide +kernel
theorem dX12_flowOf_163 : decode cX12_flowOf 163 = .ok (.iload 6, 2) := by decide +kernel
theorem dX12_flowOf_165 : decode cX12_flowOf 165 = .ok (.invokestatic 425, 3) := by decide +kernel
theorem dX12_flowOf_168 : decode cX12_flowOf 168 = .ok (.lload_n 3, 1) := by decide +kernel
theorem dX12_flowOf_169 : decode cX12_flowOf 169 = .ok (.lload 7, 2) := by decide +kernel
theorem dX12_flowOf_171 : decode cX12_flowOf 171 = .ok (.invokestatic 429, 3) := by decide +kernel
theorem dX12_flowOf_174 : decode cX12_flowOf 174 = .ok (.lastore, 1) := by decide +kernel
theorem dX12_flowOf_175 : decode cX12_flowOf 175 = .ok (.aload_n 0, 1) := by decide +kernel
theorem dX12_flowOf_176 : decode cX12_flowOf 176 = .ok (.getfield 98, 3) := by decide +kernel
theorem dX12_flowOf_179 : decode cX12_flowOf 179 = .ok (.iload_n 1, 1) := by decide +kernel
theorem dX12_flowOf_180 : decode cX12_flowOf 180 = .ok (.iload 5, 2) := by decide +kernel
theorem dX12_flowOf_182 : decode cX12_flowOf 182 = .ok (.iload 6, 2) := by decide +kernel
theorem dX12_flowOf_184 : decode cX12_flowOf 184 = .ok (.invokestatic 425, 3) := by decide +kernel
theorem dX12_flowOf_187 : decode cX12_flowOf 187 = .ok (.lconst 0, 1) := by decide +kernel
theorem dX12_flowOf_188 : decode cX12_flowOf 188 = .ok (.lload 7, 2) := by decide +kernel
theorem dX12_flowOf_190 : decode cX12_flowOf 190 = .ok (.lload_n 3, 1) := by decide +kernel
theorem dX12_flowOf_191 : decode cX12_flowOf 191 = .ok (.lsub, 1) := by decide +kernel
theorem dX12_flowOf_192 : decode cX12_flowOf 192 = .ok (.invokestatic 353, 3) := by decide +kernel
theorem dX12_flowOf_195 : decode cX12_flowOf 195 = .ok (.lastore, 1) := by decide +kernel
theorem dX12_flowOf_196 : decode cX12_flowOf 196 = .ok (.iinc 6 1, 3) := by decide +kernel
theorem dX12_flowOf_199 : decode cX12_flowOf 199 = .ok (.goto (-166), 3) := by decide +kernel
theorem dX12_flowOf_202 : decode cX12_flowOf 202 = .ok (.iinc 5 1, 3) := by decide +kernel
theorem dX12_flowOf_205 : decode cX12_flowOf 205 = .ok (.goto (-186), 3) := by decide +kernel
theorem dX12_flowOf_208 : decode cX12_flowOf 208 = .ok (.return_, 1) := by decide +kernel
theorem dX12_greatest_0 : decode cX12_greatest 0 = .ok (.ldc2_w 432, 3) := by decide +kernel
theorem dX12_greatest_3 : decode cX12_greatest 3 = .ok (.lstore_n 2, 1) := by decide +kernel
theorem dX12_greatest_4 : decode cX12_greatest 4 = .ok (.aload_n 0, 1) := by decide +kernel
theorem dX12_greatest_5 : decode cX12_greatest 5 = .ok (.iconst (-1), 1) := by decide +kernel
theorem dX12_greatest_6 : decode cX12_greatest 6 = .ok (.putfield 434, 3) := by decide +kernel
theorem dX12_greatest_9 : decode cX12_greatest 9 = .ok (.aload_n 0, 1) := by decide +kernel
theorem dX12_greatest_10 : decode cX12_greatest 10 = .ok (.iconst (-1), 1) := by decide +kernel
theorem dX12_greatest_11 : decode cX12_greatest 11 = .ok (.putfield 437, 3) := by decide +kernel
theorem dX12_greatest_14 : decode cX12_greatest 14 = .ok (.iconst 0, 1) := by decide +kernel
theorem dX12_greatest_15 : decode cX12_greatest 15 = .ok (.istore 4, 2) := by decide +kernel
theorem dX12_greatest_17 : decode cX12_greatest 17 = .ok (.iload 4, 2) := by decide +kernel
theorem dX12_greatest_19 : decode cX12_greatest 19 = .ok (.aload_n 0, 1) := by decide +kernel
theorem dX12_greatest_20 : decode cX12_greatest 20 = .ok (.getfield 15, 3) := by decide +kernel
theorem dX12_greatest_23 : decode cX12_greatest 23 = .ok (.iconst 3, 1) := by decide +kernel
theorem dX12_greatest_24 : decode cX12_greatest 24 = .ok (.iaload, 1) := by decide +kernel
theorem dX12_greatest_25 : decode cX12_greatest 25 = .ok (.if_icmp .ge 72, 3) := by decide +kernel
theorem dX12_greatest_28 : decode cX12_greatest 28 = .ok (.iconst 0, 1) := by decide +kernel
theorem dX12_greatest_29 : decode cX12_greatest 29 = .ok (.istore 5, 2) := by decide +kernel
theorem dX12_greatest_31 : decode cX12_greatest 31 = .ok (.iload 5, 2) := by decide +kernel
theorem dX12_greatest_33 : decode cX12_greatest 33 = .ok (.bipush 30, 2) := by decide +kernel
theorem dX12_greatest_35 : decode cX12_greatest 35 = .ok (.if_icmp .ge 56, 3) := by decide +kernel
theorem dX12_greatest_38 : decode cX12_greatest 38 = .ok (.aload_n 0, 1) := by decide +kernel
theorem dX12_greatest_39 : decode cX12_greatest 39 = .ok (.getfield 95, 3) := by decide +kernel
theorem dX12_greatest_42 : decode cX12_greatest 42 = .ok (.iload_n 1, 1) := by decide +kernel
theorem dX12_greatest_43 : decode cX12_greatest 43 = .ok (.iload 4, 2) := by decide +kernel
theorem dX12_greatest_45 : decode cX12_greatest 45 = .ok (.iload 5, 2) := by decide +kernel
theorem dX12_greatest_47 : decode cX12_greatest 47 = .ok (.invokestatic 425, 3) := by decide +kernel
theorem dX12_greatest_50 : decode cX12_greatest 50 = .ok (.laload, 1) := by decide +kernel
theorem dX12_greatest_51 : decode cX12_greatest 51 = .ok (.lload_n 2, 1) := by decide +kernel
theorem dX12_greatest_52 : decode cX12_greatest 52 = .ok (.lcmp, 1) := by decide +kernel
theorem dX12_greatest_53 : decode cX12_greatest 53 = .ok (.ifCond .gt 6, 3) := by decide +kernel
theorem dX12_greatest_56 : decode cX12_greatest 56 = .ok (.goto 29, 3) := by decide +kernel
theorem dX12_greatest_59 : decode cX12_greatest 59 = .ok (.aload_n 0, 1) := by decide +kernel
theorem dX12_greatest_60 : decode cX12_greatest 60 = .ok (.getfield 95, 3) := by decide +kernel
theorem dX12_greatest_63 : decode cX12_greatest 63 = .ok (.iload_n 1, 1) := by decide +kernel
theorem dX12_greatest_64 : decode cX12_greatest 64 = .ok (.iload 4, 2) := by decide +kernel
theorem dX12_greatest_66 : decode cX12_greatest 66 = .ok (.iload 5, 2) := by decide +kernel
theorem dX12_greatest_68 : decode cX12_greatest 68 = .ok (.invokestatic 425, 3) := by decide +kernel
theorem dX12_greatest_71 : decode cX12_greatest 71 = .ok (.laload, 1) := by decide +kernel
theorem dX12_greatest_72 : decode cX12_greatest 72 = .ok (.lstore_n 2, 1) := by decide +kernel
theorem dX12_greatest_73 : decode cX12_greatest 73 = .ok (.aload_n 0, 1) := by decide +kernel
theorem dX12_greatest_74 : decode cX12_greatest 74 = .ok (.iload 4, 2) := by decide +kernel
theorem dX12_greatest_76 : decode cX12_greatest 76 = .ok (.putfield 434, 3) := by decide +kernel
theorem dX12_greatest_79 : decode cX12_greatest 79 = .ok (.aload_n 0, 1) := by decide +kernel
theorem dX12_greatest_80 : decode cX12_greatest 80 = .ok (.iload 5, 2) := by decide +kernel
theorem dX12_greatest_82 : decode cX12_greatest 82 = .ok (.putfield 437, 3) := by decide +kernel
theorem dX12_greatest_85 : decode cX12_greatest 85 = .ok (.iinc 5 1, 3) := by decide +kernel
theorem dX12_greatest_88 : decode cX12_greatest 88 = .ok (.goto (-57), 3) := by decide +kernel
theorem dX12_greatest_91 : decode cX12_greatest 91 = .ok (.iinc 4 1, 3) := by decide +kernel
theorem dX12_greatest_94 : decode cX12_greatest 94 = .ok (.goto (-77), 3) := by decide +kernel
theorem dX12_greatest_97 : decode cX12_greatest 97 = .ok (.lconst 0, 1) := by decide +kernel
theorem dX12_greatest_98 : decode cX12_greatest 98 = .ok (.lload_n 2, 1) := by decide +kernel
theorem dX12_greatest_99 : decode cX12_greatest 99 = .ok (.invokestatic 353, 3) := by decide +kernel
theorem dX12_greatest_102 : decode cX12_greatest 102 = .ok (.lreturn, 1) := by decide +kernel
theorem dX12_keepNow_0 : decode cX12_keepNow 0 = .ok (.aload_n 0, 1) := by decide +kernel
theorem dX12_keepNow_1 : decode cX12_keepNow 1 = .ok (.getfield 320, 3) := by decide +kernel
theorem dX12_keepNow_4 : decode cX12_keepNow 4 = .ok (.bipush 20, 2) := by decide +kernel
theorem dX12_keepNow_6 : decode cX12_keepNow 6 = .ok (.if_icmp .ne 89, 3) := by decide +kernel
theorem dX12_keepNow_9 : decode cX12_keepNow 9 = .ok (.bipush 7, 2) := by decide +kernel
theorem dX12_keepNow_11 : decode cX12_keepNow 11 = .ok (.istore_n 1, 1) := by decide +kernel
theorem dX12_keepNow_12 : decode cX12_keepNow 12 = .ok (.iload_n 1, 1) := by decide +kernel
theorem dX12_keepNow_13 : decode cX12_keepNow 13 = .ok (.sipush 140, 3) := by decide +kernel
theorem dX12_keepNow_16 : decode cX12_keepNow 16 = .ok (.if_icmp .ge 69, 3) := by decide +kernel
theorem dX12_keepNow_19 : decode cX12_keepNow 19 = .ok (.aload_n 0, 1) := by decide +kernel
theorem dX12_keepNow_20 : decode cX12_keepNow 20 = .ok (.getfield 105, 3) := by decide +kernel
theorem dX12_keepNow_23 : decode cX12_keepNow 23 = .ok (.iload_n 1, 1) := by decide +kernel
theorem dX12_keepNow_24 : decode cX12_keepNow 24 = .ok (.bipush 7, 2) := by decide +kernel
theorem dX12_keepNow_26 : decode cX12_keepNow 26 = .ok (.isub, 1) := by decide +kernel
theorem dX12_keepNow_27 : decode cX12_keepNow 27 = .ok (.aload_n 0, 1) := by decide +kernel
theorem dX12_keepNow_28 : decode cX12_keepNow 28 = .ok (.getfield 105, 3) := by decide +kernel
theorem dX12_keepNow_31 : decode cX12_keepNow 31 = .ok (.iload_n 1, 1) := by decide +kernel
theorem dX12_keepNow_32 : decode cX12_keepNow 32 = .ok (.iaload, 1) := by decide +kernel
theorem dX12_keepNow_33 : decode cX12_keepNow 33 = .ok (.iastore, 1) := by decide +kernel
theorem dX12_keepNow_34 : decode cX12_keepNow 34 = .ok (.aload_n 0, 1) := by decide +kernel
theorem dX12_keepNow_35 : decode cX12_keepNow 35 = .ok (.getfield 108, 3) := by decide +kernel
theorem dX12_keepNow_38 : decode cX12_keepNow 38 = .ok (.iload_n 1, 1) := by decide +kernel
theorem dX12_keepNow_39 : decode cX12_keepNow 39 = .ok (.bipush 7, 2) := by decide +kernel
theorem dX12_keepNow_41 : decode cX12_keepNow 41 = .ok (.isub, 1) := by decide +kernel
theorem dX12_keepNow_42 : decode cX12_keepNow 42 = .ok (.aload_n 0, 1) := by decide +kernel
theorem dX12_keepNow_43 : decode cX12_keepNow 43 = .ok (.getfield 108, 3) := by decide +kernel
theorem dX12_keepNow_46 : decode cX12_keepNow 46 = .ok (.iload_n 1, 1) := by decide +kernel
theorem dX12_keepNow_47 : decode cX12_keepNow 47 = .ok (.iaload, 1) := by decide +kernel
theorem dX12_keepNow_48 : decode cX12_keepNow 48 = .ok (.iastore, 1) := by decide +kernel
theorem dX12_keepNow_49 : decode cX12_keepNow 49 = .ok (.aload_n 0, 1) := by decide +kernel
theorem dX12_keepNow_50 : decode cX12_keepNow 50 = .ok (.getfield 111, 3) := by decide +kernel
theorem dX12_keepNow_53 : decode cX12_keepNow 53 = .ok (.iload_n 1, 1) := by decide +kernel
theorem dX12_keepNow_54 : decode cX12_keepNow 54 = .ok (.bipush 7, 2) := by decide +kernel
theorem dX12_keepNow_56 : decode cX12_keepNow 56 = .ok (.isub, 1) := by decide +kernel
theorem dX12_keepNow_57 : decode cX12_keepNow 57 = .ok (.aload_n 0, 1) := by decide +kernel
theorem dX12_keepNow_58 : decode cX12_keepNow 58 = .ok (.getfield 111, 3) := by decide +kernel
theorem dX12_keepNow_61 : decode cX12_keepNow 61 = .ok (.iload_n 1, 1) := by decide +kernel
theorem dX12_keepNow_62 : decode cX12_keepNow 62 = .ok (.iaload, 1) := by decide +kernel
theorem dX12_keepNow_63 : decode cX12_keepNow 63 = .ok (.iastore, 1) := by decide +kernel
theorem dX12_keepNow_64 : decode cX12_keepNow 64 = .ok (.aload_n 0, 1) := by decide +kernel
theorem dX12_keepNow_65 : decode cX12_keepNow 65 = .ok (.getfield 114, 3) := by decide +kernel
theorem dX12_keepNow_68 : decode cX12_keepNow 68 = .ok (.iload_n 1, 1) := by decide +kernel
theorem dX12_keepNow_69 : decode cX12_keepNow 69 = .ok (.bipush 7, 2) := by decide +kernel
theorem dX12_keepNow_71 : decode cX12_keepNow 71 = .ok (.isub, 1) := by decide +kernel
theorem dX12_keepNow_72 : decode cX12_keepNow 72 = .ok (.aload_n 0, 1) := by decide +kernel
theorem dX12_keepNow_73 : decode cX12_keepNow 73 = .ok (.getfield 114, 3) := by decide +kernel
theorem dX12_keepNow_76 : decode cX12_keepNow 76 = .ok (.iload_n 1, 1) := by decide +kernel
theorem dX12_keepNow_77 : decode cX12_keepNow 77 = .ok (.iaload, 1) := by decide +kernel
theorem dX12_keepNow_78 : decode cX12_keepNow 78 = .ok (.iastore, 1) := by decide +kernel
theorem dX12_keepNow_79 : decode cX12_keepNow 79 = .ok (.iinc 1 1, 3) := by decide +kernel
theorem dX12_keepNow_82 : decode cX12_keepNow 82 = .ok (.goto (-70), 3) := by decide +kernel
theorem dX12_keepNow_85 : decode cX12_keepNow 85 = .ok (.aload_n 0, 1) := by decide +kernel
theorem dX12_keepNow_86 : decode cX12_keepNow 86 = .ok (.dup, 1) := by decide +kernel
theorem dX12_keepNow_87 : decode cX12_keepNow 87 = .ok (.getfield 320, 3) := by decide +kernel
theorem dX12_keepNow_90 : decode cX12_keepNow 90 = .ok (.iconst 1, 1) := by decide +kernel
theorem dX12_keepNow_91 : decode cX12_keepNow 91 = .ok (.isub, 1) := by decide +kernel
theorem dX12_keepNow_92 : decode cX12_keepNow 92 = .ok (.putfield 320, 3) := by decide +kernel
theorem dX12_keepNow_95 : decode cX12_keepNow 95 = .ok (.iconst 0, 1) := by decide +kernel
theorem dX12_keepNow_96 : decode cX12_keepNow 96 = .ok (.istore_n 1, 1) := by decide +kernel
theorem dX12_keepNow_97 : decode cX12_keepNow 97 = .ok (.iload_n 1, 1) := by decide +kernel
theorem dX12_keepNow_98 : decode cX12_keepNow 98 = .ok (.bipush 7, 2) := by decide +kernel
theorem dX12_keepNow_100 : decode cX12_keepNow 100 = .ok (.if_icmp .ge 89, 3) := by decide +kernel
theorem dX12_keepNow_103 : decode cX12_keepNow 103 = .ok (.aload_n 0, 1) := by decide +kernel
theorem dX12_keepNow_104 : decode cX12_keepNow 104 = .ok (.getfield 105, 3) := by decide +kernel
theorem dX12_keepNow_107 : decode cX12_keepNow 107 = .ok (.bipush 7, 2) := by decide +kernel
theorem dX12_keepNow_109 : decode cX12_keepNow 109 = .ok (.aload_n 0, 1) := by decide +kernel
theorem dX12_keepNow_110 : decode cX12_keepNow 110 = .ok (.getfield 320, 3) := by decide +kernel
theorem dX12_keepNow_113 : decode cX12_keepNow 113 = .ok (.imul, 1) := by decide +kernel
theorem dX12_keepNow_114 : decode cX12_keepNow 114 = .ok (.iload_n 1, 1) := by decide +kernel
theorem dX12_keepNow_115 : decode cX12_keepNow 115 = .ok (.iadd, 1) := by decide +kernel
theorem dX12_keepNow_116 : decode cX12_keepNow 116 = .ok (.aload_n 0, 1) := by decide +kernel
theorem dX12_keepNow_117 : decode cX12_keepNow 117 = .ok (.getfield 83, 3) := by decide +kernel
theorem dX12_keepNow_120 : decode cX12_keepNow 120 = .ok (.iload_n 1, 1) := by decide +kernel
theorem dX12_keepNow_121 : decode cX12_keepNow 121 = .ok (.iaload, 1) := by decide +kernel
theorem dX12_keepNow_122 : decode cX12_keepNow 122 = .ok (.iastore, 1) := by decide +kernel
theorem dX12_keepNow_123 : decode cX12_keepNow 123 = .ok (.aload_n 0, 1) := by decide +kernel
theorem dX12_keepNow_124 : decode cX12_keepNow 124 = .ok (.getfield 108, 3) := by decide +kernel
theorem dX12_keepNow_127 : decode cX12_keepNow 127 = .ok (.bipush 7, 2) := by decide +kernel
theorem dX12_keepNow_129 : decode cX12_keepNow 129 = .ok (.aload_n 0, 1) := by decide +kernel
theorem dX12_keepNow_130 : decode cX12_keepNow 130 = .ok (.getfield 320, 3) := by decide +kernel
theorem dX12_keepNow_133 : decode cX12_keepNow 133 = .ok (.imul, 1) := by decide +kernel
theorem dX12_keepNow_134 : decode cX12_keepNow 134 = .ok (.iload_n 1, 1) := by decide +kernel
theorem dX12_keepNow_135 : decode cX12_keepNow 135 = .ok (.iadd, 1) := by decide +kernel
theorem dX12_keepNow_136 : decode cX12_keepNow 136 = .ok (.aload_n 0, 1) := by decide +kernel
theorem dX12_keepNow_137 : decode cX12_keepNow 137 = .ok (.getfield 86, 3) := by decide +kernel
theorem dX12_keepNow_140 : decode cX12_keepNow 140 = .ok (.iload_n 1, 1) := by decide +kernel
theorem dX12_keepNow_141 : decode cX12_keepNow 141 = .ok (.iaload, 1) := by decide +kernel
theorem dX12_keepNow_142 : decode cX12_keepNow 142 = .ok (.iastore, 1) := by decide +kernel
theorem dX12_keepNow_143 : decode cX12_keepNow 143 = .ok (.aload_n 0, 1) := by decide +kernel
theorem dX12_keepNow_144 : decode cX12_keepNow 144 = .ok (.getfield 111, 3) := by decide +kernel
theorem dX12_keepNow_147 : decode cX12_keepNow 147 = .ok (.bipush 7, 2) := by decide +kernel
theorem dX12_keepNow_149 : decode cX12_keepNow 149 = .ok (.aload_n 0, 1) := by decide +kernel
theorem dX12_keepNow_150 : decode cX12_keepNow 150 = .ok (.getfield 320, 3) := by decide +kernel
theorem dX12_keepNow_153 : decode cX12_keepNow 153 = .ok (.imul, 1) := by decide +kernel
theorem dX12_keepNow_154 : decode cX12_keepNow 154 = .ok (.iload_n 1, 1) := by decide +kernel
theorem dX12_keepNow_155 : decode cX12_keepNow 155 = .ok (.iadd, 1) := by decide +kernel
theorem dX12_keepNow_156 : decode cX12_keepNow 156 = .ok (.aload_n 0, 1) := by decide +kernel
theorem dX12_keepNow_157 : decode cX12_keepNow 157 = .ok (.getfield 89, 3) := by decide +kernel
theorem dX12_keepNow_160 : decode cX12_keepNow 160 = .ok (.iload_n 1, 1) := by decide +kernel
theorem dX12_keepNow_161 : decode cX12_keepNow 161 = .ok (.iaload, 1) := by decide +kernel
theorem dX12_keepNow_162 : decode cX12_keepNow 162 = .ok (.iastore, 1) := by decide +kernel
theorem dX12_keepNow_163 : decode cX12_keepNow 163 = .ok (.aload_n 0, 1) := by decide +kernel
theorem dX12_keepNow_164 : decode cX12_keepNow 164 = .ok (.getfield 114, 3) := by decide +kernel
theorem dX12_keepNow_167 : decode cX12_keepNow 167 = .ok (.bipush 7, 2) := by decide +kernel
theorem dX12_keepNow_169 : decode cX12_keepNow 169 = .ok (.aload_n 0, 1) := by decide +kernel
theorem dX12_keepNow_170 : decode cX12_keepNow 170 = .ok (.getfield 320, 3) := by decide +kernel
theorem dX12_keepNow_173 : decode cX12_keepNow 173 = .ok (.imul, 1) := by decide +kernel
theorem dX12_keepNow_174 : decode cX12_keepNow 174 = .ok (.iload_n 1, 1) := by decide +kernel
theorem dX12_keepNow_175 : decode cX12_keepNow 175 = .ok (.iadd, 1) := by decide +kernel
theorem dX12_keepNow_176 : decode cX12_keepNow 176 = .ok (.aload_n 0, 1) := by decide +kernel
theorem dX12_keepNow_177 : decode cX12_keepNow 177 = .ok (.getfield 92, 3) := by decide +kernel
theorem dX12_keepNow_180 : decode cX12_keepNow 180 = .ok (.iload_n 1, 1) := by decide +kernel
theorem dX12_keepNow_181 : decode cX12_keepNow 181 = .ok (.iaload, 1) := by decide +kernel
theorem dX12_keepNow_182 : decode cX12_keepNow 182 = .ok (.iastore, 1) := by decide +kernel
theorem dX12_keepNow_183 : decode cX12_keepNow 183 = .ok (.iinc 1 1, 3) := by decide +kernel
theorem dX12_keepNow_186 : decode cX12_keepNow 186 = .ok (.goto (-89), 3) := by decide +kernel
theorem dX12_keepNow_189 : decode cX12_keepNow 189 = .ok (.aload_n 0, 1) := by decide +kernel
theorem dX12_keepNow_190 : decode cX12_keepNow 190 = .ok (.dup, 1) := by decide +kernel
theorem dX12_keepNow_191 : decode cX12_keepNow 191 = .ok (.getfield 320, 3) := by decide +kernel
theorem dX12_keepNow_194 : decode cX12_keepNow 194 = .ok (.iconst 1, 1) := by decide +kernel
theorem dX12_keepNow_195 : decode cX12_keepNow 195 = .ok (.iadd, 1) := by decide +kernel
theorem dX12_keepNow_196 : decode cX12_keepNow 196 = .ok (.putfield 320, 3) := by decide +kernel
theorem dX12_keepNow_199 : decode cX12_keepNow 199 = .ok (.return_, 1) := by decide +kernel
theorem dX12_isDeep_0 : decode cX12_isDeep 0 = .ok (.iload_n 0, 1) := by decide +kernel
theorem dX12_isDeep_1 : decode cX12_isDeep 1 = .ok (.ifCond .lt 13, 3) := by decide +kernel
theorem dX12_isDeep_4 : decode cX12_isDeep 4 = .ok (.iload_n 0, 1) := by decide +kernel
theorem dX12_isDeep_5 : decode cX12_isDeep 5 = .ok (.bipush 12, 2) := by decide +kernel
theorem dX12_isDeep_7 : decode cX12_isDeep 7 = .ok (.if_icmp .gt 7, 3) := by decide +kernel
theorem dX12_isDeep_10 : decode cX12_isDeep 10 = .ok (.iconst 1, 1) := by decide +kernel
theorem dX12_isDeep_11 : decode cX12_isDeep 11 = .ok (.goto 4, 3) := by decide +kernel
theorem dX12_isDeep_14 : decode cX12_isDeep 14 = .ok (.iconst 0, 1) := by decide +kernel
theorem dX12_isDeep_15 : decode cX12_isDeep 15 = .ok (.ireturn, 1) := by decide +kernel
theorem dX12_touches_0 : decode cX12_touches 0 = .ok (.aload_n 0, 1) := by decide +kernel
theorem dX12_touches_1 : decode cX12_touches 1 = .ok (.getfield 30, 3) := by decide +kernel
theorem dX12_touches_4 : decode cX12_touches 4 = .ok (.iload_n 1, 1) := by decide +kernel
theorem dX12_touches_5 : decode cX12_touches 5 = .ok (.iaload, 1) := by decide +kernel
theorem dX12_touches_6 : decode cX12_touches 6 = .ok (.iload_n 2, 1) := by decide +kernel
theorem dX12_touches_7 : decode cX12_touches 7 = .ok (.if_icmp .eq 13, 3) := by decide +kernel
theorem dX12_touches_10 : decode cX12_touches 10 = .ok (.aload_n 0, 1) := by decide +kernel
theorem dX12_touches_11 : decode cX12_touches 11 = .ok (.getfield 33, 3) := by decide +kernel
theorem dX12_touches_14 : decode cX12_touches 14 = .ok (.iload_n 1, 1) := by decide +kernel
theorem dX12_touches_15 : decode cX12_touches 15 = .ok (.iaload, 1) := by decide +kernel
theorem dX12_touches_16 : decode cX12_touches 16 = .ok (.iload_n 2, 1) := by decide +kernel
theorem dX12_touches_17 : decode cX12_touches 17 = .ok (.if_icmp .ne 7, 3) := by decide +kernel
theorem dX12_touches_20 : decode cX12_touches 20 = .ok (.iconst 1, 1) := by decide +kernel
theorem dX12_touches_21 : decode cX12_touches 21 = .ok (.goto 4, 3) := by decide +kernel
theorem dX12_touches_24 : decode cX12_touches 24 = .ok (.iconst 0, 1) := by decide +kernel
theorem dX12_touches_25 : decode cX12_touches 25 = .ok (.ireturn, 1) := by decide +kernel
theorem dX12_lay_0 : decode cX12_lay 0 = .ok (.aload_n 0, 1) := by decide +kernel
theorem dX12_lay_1 : decode cX12_lay 1 = .ok (.iconst 0, 1) := by decide +kernel
theorem dX12_lay_2 : decode cX12_lay 2 = .ok (.putfield 153, 3) := by decide +kernel
theorem dX12_lay_5 : decode cX12_lay 5 = .ok (.aload_n 0, 1) := by decide +kernel
theorem dX12_lay_6 : decode cX12_lay 6 = .ok (.iload_n 1, 1) := by decide +kernel
theorem dX12_lay_7 : decode cX12_lay 7 = .ok (.invokevirtual 327, 3) := by decide +kernel
theorem dX12_lay_10 : decode cX12_lay 10 = .ok (.ifCond .eq 60, 3) := by decide +kernel
theorem dX12_lay_13 : decode cX12_lay 13 = .ok (.iload_n 1, 1) := by decide +kernel
theorem dX12_lay_14 : decode cX12_lay 14 = .ok (.aload_n 0, 1) := by decide +kernel
theorem dX12_lay_15 : decode cX12_lay 15 = .ok (.getfield 15, 3) := by decide +kernel
theorem dX12_lay_18 : decode cX12_lay 18 = .ok (.iconst 4, 1) := by decide +kernel
theorem dX12_lay_19 : decode cX12_lay 19 = .ok (.iaload, 1) := by decide +kernel
theorem dX12_lay_20 : decode cX12_lay 20 = .ok (.if_icmp .eq 50, 3) := by decide +kernel
theorem dX12_lay_23 : decode cX12_lay 23 = .ok (.aload_n 0, 1) := by decide +kernel
theorem dX12_lay_24 : decode cX12_lay 24 = .ok (.iload_n 2, 1) := by decide +kernel
theorem dX12_lay_25 : decode cX12_lay 25 = .ok (.invokevirtual 330, 3) := by decide +kernel
theorem dX12_lay_28 : decode cX12_lay 28 = .ok (.ifCond .eq 42, 3) := by decide +kernel
theorem dX12_lay_31 : decode cX12_lay 31 = .ok (.aload_n 0, 1) := by decide +kernel
theorem dX12_lay_32 : decode cX12_lay 32 = .ok (.iload_n 2, 1) := by decide +kernel
theorem dX12_lay_33 : decode cX12_lay 33 = .ok (.iload_n 1, 1) := by decide +kernel
theorem dX12_lay_34 : decode cX12_lay 34 = .ok (.invokevirtual 440, 3) := by decide +kernel
theorem dX12_lay_37 : decode cX12_lay 37 = .ok (.ifCond .eq 33, 3) := by decide +kernel
theorem dX12_lay_40 : decode cX12_lay 40 = .ok (.iload_n 3, 1) := by decide +kernel
theorem dX12_lay_41 : decode cX12_lay 41 = .ok (.ifCond .lt 29, 3) := by decide +kernel
theorem dX12_lay_44 : decode cX12_lay 44 = .ok (.iload_n 3, 1) := by decide +kernel
theorem dX12_lay_45 : decode cX12_lay 45 = .ok (.aload_n 0, 1) := by decide +kernel
theorem dX12_lay_46 : decode cX12_lay 46 = .ok (.getfield 15, 3) := by decide +kernel
theorem dX12_lay_49 : decode cX12_lay 49 = .ok (.iconst 2, 1) := by decide +kernel
theorem dX12_lay_50 : decode cX12_lay 50 = .ok (.iaload, 1) := by decide +kernel
theorem dX12_lay_51 : decode cX12_lay 51 = .ok (.if_icmp .ge 19, 3) := by decide +kernel
theorem dX12_lay_54 : decode cX12_lay 54 = .ok (.iload 4, 2) := by decide +kernel
theorem dX12_lay_56 : decode cX12_lay 56 = .ok (.invokestatic 443, 3) := by decide +kernel
theorem dX12_lay_59 : decode cX12_lay 59 = .ok (.ifCond .eq 11, 3) := by decide +kernel
theorem dX12_lay_62 : decode cX12_lay 62 = .ok (.iload 5, 2) := by decide +kernel
theorem dX12_lay_64 : decode cX12_lay 64 = .ok (.invokestatic 443, 3) := by decide +kernel
theorem dX12_lay_67 : decode cX12_lay 67 = .ok (.ifCond .ne 5, 3) := by decide +kernel
theorem dX12_lay_70 : decode cX12_lay 70 = .ok (.iconst 0, 1) := by decide +kernel
theorem dX12_lay_71 : decode cX12_lay 71 = .ok (.ireturn, 1) := by decide +kernel
theorem dX12_lay_72 : decode cX12_lay 72 = .ok (.aload_n 0, 1) := by decide +kernel
theorem dX12_lay_73 : decode cX12_lay 73 = .ok (.invokevirtual 446, 3) := by decide +kernel
theorem dX12_lay_76 : decode cX12_lay 76 = .ok (.aload_n 0, 1) := by decide +kernel
theorem dX12_lay_77 : decode cX12_lay 77 = .ok (.getfield 83, 3) := by decide +kernel
theorem dX12_lay_80 : decode cX12_lay 80 = .ok (.iload_n 1, 1) := by decide +kernel
theorem dX12_lay_81 : decode cX12_lay 81 = .ok (.iload_n 2, 1) := by decide +kernel
theorem dX12_lay_82 : decode cX12_lay 82 = .ok (.iastore, 1) := by decide +kernel
theorem dX12_lay_83 : decode cX12_lay 83 = .ok (.aload_n 0, 1) := by decide +kernel
theorem dX12_lay_84 : decode cX12_lay 84 = .ok (.getfield 86, 3) := by decide +kernel
theorem dX12_lay_87 : decode cX12_lay 87 = .ok (.iload_n 1, 1) := by decide +kernel
theorem dX12_lay_88 : decode cX12_lay 88 = .ok (.iload_n 3, 1) := by decide +kernel
theorem dX12_lay_89 : decode cX12_lay 89 = .ok (.iastore, 1) := by decide +kernel
theorem dX12_lay_90 : decode cX12_lay 90 = .ok (.aload_n 0, 1) := by decide +kernel
theorem dX12_lay_91 : decode cX12_lay 91 = .ok (.getfield 89, 3) := by decide +kernel
theorem dX12_lay_94 : decode cX12_lay 94 = .ok (.iload_n 1, 1) := by decide +kernel
theorem dX12_lay_95 : decode cX12_lay 95 = .ok (.iload 4, 2) := by decide +kernel
theorem dX12_lay_97 : decode cX12_lay 97 = .ok (.iastore, 1) := by decide +kernel
theorem dX12_lay_98 : decode cX12_lay 98 = .ok (.aload_n 0, 1) := by decide +kernel
theorem dX12_lay_99 : decode cX12_lay 99 = .ok (.getfield 92, 3) := by decide +kernel
theorem dX12_lay_102 : decode cX12_lay 102 = .ok (.iload_n 1, 1) := by decide +kernel
theorem dX12_lay_103 : decode cX12_lay 103 = .ok (.iload 5, 2) := by decide +kernel
theorem dX12_lay_105 : decode cX12_lay 105 = .ok (.iastore, 1) := by decide +kernel
theorem dX12_lay_106 : decode cX12_lay 106 = .ok (.iconst 1, 1) := by decide +kernel
theorem dX12_lay_107 : decode cX12_lay 107 = .ok (.ireturn, 1) := by decide +kernel
theorem dX12_take_0 : decode cX12_take 0 = .ok (.aload_n 0, 1) := by decide +kernel
theorem dX12_take_1 : decode cX12_take 1 = .ok (.iconst 0, 1) := by decide +kernel
theorem dX12_take_2 : decode cX12_take 2 = .ok (.putfield 153, 3) := by decide +kernel
theorem dX12_take_5 : decode cX12_take 5 = .ok (.aload_n 0, 1) := by decide +kernel
theorem dX12_take_6 : decode cX12_take 6 = .ok (.iconst 0, 1) := by decide +kernel
theorem dX12_take_7 : decode cX12_take 7 = .ok (.putfield 371, 3) := by decide +kernel
theorem dX12_take_10 : decode cX12_take 10 = .ok (.aload_n 0, 1) := by decide +kernel
theorem dX12_take_11 : decode cX12_take 11 = .ok (.iload_n 1, 1) := by decide +kernel
theorem dX12_take_12 : decode cX12_take 12 = .ok (.invokevirtual 327, 3) := by decide +kernel
theorem dX12_take_15 : decode cX12_take 15 = .ok (.ifCond .eq 11, 3) := by decide +kernel
theorem dX12_take_18 : decode cX12_take 18 = .ok (.aload_n 0, 1) := by decide +kernel
theorem dX12_take_19 : decode cX12_take 19 = .ok (.iload_n 1, 1) := by decide +kernel
theorem dX12_take_20 : decode cX12_take 20 = .ok (.invokevirtual 380, 3) := by decide +kernel
theorem dX12_take_23 : decode cX12_take 23 = .ok (.ifCond .ne 5, 3) := by decide +kernel
theorem dX12_take_26 : decode cX12_take 26 = .ok (.iconst 0, 1) := by decide +kernel
theorem dX12_take_27 : decode cX12_take 27 = .ok (.ireturn, 1) := by decide +kernel
theorem dX12_take_28 : decode cX12_take 28 = .ok (.aload_n 0, 1) := by decide +kernel
theorem dX12_take_29 : decode cX12_take 29 = .ok (.invokevirtual 446, 3) := by decide +kernel
theorem dX12_take_32 : decode cX12_take 32 = .ok (.aload_n 0, 1) := by decide +kernel
theorem dX12_take_33 : decode cX12_take 33 = .ok (.getfield 83, 3) := by decide +kernel
theorem dX12_take_36 : decode cX12_take 36 = .ok (.iload_n 1, 1) := by decide +kernel
theorem dX12_take_37 : decode cX12_take 37 = .ok (.iconst (-1), 1) := by decide +kernel
theorem dX12_take_38 : decode cX12_take 38 = .ok (.iastore, 1) := by decide +kernel
theorem dX12_take_39 : decode cX12_take 39 = .ok (.iconst 1, 1) := by decide +kernel
theorem dX12_take_40 : decode cX12_take 40 = .ok (.ireturn, 1) := by decide +kernel
theorem dX12_net_0 : decode cX12_net 0 = .ok (.aload_n 0, 1) := by decide +kernel
theorem dX12_net_1 : decode cX12_net 1 = .ok (.iconst 0, 1) := by decide +kernel
theorem dX12_net_2 : decode cX12_net 2 = .ok (.putfield 153, 3) := by decide +kernel
theorem dX12_net_5 : decode cX12_net 5 = .ok (.aload_n 0, 1) := by decide +kernel
theorem dX12_net_6 : decode cX12_net 6 = .ok (.iconst 0, 1) := by decide +kernel
theorem dX12_net_7 : decode cX12_net 7 = .ok (.putfield 371, 3) := by decide +kernel
theorem dX12_net_10 : decode cX12_net 10 = .ok (.aload_n 0, 1) := by decide +kernel
theorem dX12_net_11 : decode cX12_net 11 = .ok (.iload_n 1, 1) := by decide +kernel
theorem dX12_net_12 : decode cX12_net 12 = .ok (.invokevirtual 327, 3) := by decide +kernel
theorem dX12_net_15 : decode cX12_net 15 = .ok (.ifCond .eq 12, 3) := by decide +kernel
theorem dX12_net_18 : decode cX12_net 18 = .ok (.iload_n 2, 1) := by decide +kernel
theorem dX12_net_19 : decode cX12_net 19 = .ok (.ifCond .lt 8, 3) := by decide +kernel
theorem dX12_net_22 : decode cX12_net 22 = .ok (.iload_n 2, 1) := by decide +kernel
theorem dX12_net_23 : decode cX12_net 23 = .ok (.iconst 5, 1) := by decide +kernel
theorem dX12_net_24 : decode cX12_net 24 = .ok (.if_icmp .le 5, 3) := by decide +kernel
theorem dX12_net_27 : decode cX12_net 27 = .ok (.iconst (-1), 1) := by decide +kernel
theorem dX12_net_28 : decode cX12_net 28 = .ok (.ireturn, 1) := by decide +kernel
theorem dX12_net_29 : decode cX12_net 29 = .ok (.aload_n 0, 1) := by decide +kernel
theorem dX12_net_30 : decode cX12_net 30 = .ok (.iload_n 1, 1) := by decide +kernel
theorem dX12_net_31 : decode cX12_net 31 = .ok (.invokevirtual 380, 3) := by decide +kernel
theorem dX12_net_34 : decode cX12_net 34 = .ok (.ifCond .ne 17, 3) := by decide +kernel
theorem dX12_net_37 : decode cX12_net 37 = .ok (.iload_n 2, 1) := by decide +kernel
theorem dX12_net_38 : decode cX12_net 38 = .ok (.iconst 5, 1) := by decide +kernel
theorem dX12_net_39 : decode cX12_net 39 = .ok (.if_icmp .ne 9, 3) := by decide +kernel
theorem dX12_net_42 : decode cX12_net 42 = .ok (.ldc_w 449, 3) := by decide +kernel
theorem dX12_net_45 : decode cX12_net 45 = .ok (.goto 5, 3) := by decide +kernel
theorem dX12_net_48 : decode cX12_net 48 = .ok (.bipush (-2), 2) := by decide +kernel
theorem dX12_net_50 : decode cX12_net 50 = .ok (.ireturn, 1) := by decide +kernel
theorem dX12_net_51 : decode cX12_net 51 = .ok (.iload_n 2, 1) := by decide +kernel
theorem dX12_net_52 : decode cX12_net 52 = .ok (.tableswitch 66 0 4 #[36, 42, 48, 54, 60], 36) := by decide +kernel
theorem dX12_net_88 : decode cX12_net 88 = .ok (.aload_n 0, 1) := by decide +kernel
theorem dX12_net_89 : decode cX12_net 89 = .ok (.iload_n 1, 1) := by decide +kernel
theorem dX12_net_90 : decode cX12_net 90 = .ok (.invokevirtual 374, 3) := by decide +kernel
theorem dX12_net_93 : decode cX12_net 93 = .ok (.ireturn, 1) := by decide +kernel
theorem dX12_net_94 : decode cX12_net 94 = .ok (.aload_n 0, 1) := by decide +kernel
theorem dX12_net_95 : decode cX12_net 95 = .ok (.iload_n 1, 1) := by decide +kernel
theorem dX12_net_96 : decode cX12_net 96 = .ok (.invokevirtual 396, 3) := by decide +kernel
theorem dX12_net_99 : decode cX12_net 99 = .ok (.ireturn, 1) := by decide +kernel
theorem dX12_net_100 : decode cX12_net 100 = .ok (.aload_n 0, 1) := by decide +kernel
theorem dX12_net_101 : decode cX12_net 101 = .ok (.iload_n 1, 1) := by decide +kernel
theorem dX12_net_102 : decode cX12_net 102 = .ok (.invokevirtual 386, 3) := by decide +kernel
theorem dX12_net_105 : decode cX12_net 105 = .ok (.ireturn, 1) := by decide +kernel
theorem dX12_net_106 : decode cX12_net 106 = .ok (.aload_n 0, 1) := by decide +kernel
theorem dX12_net_107 : decode cX12_net 107 = .ok (.iload_n 1, 1) := by decide +kernel
theorem dX12_net_108 : decode cX12_net 108 = .ok (.invokevirtual 389, 3) := by decide +kernel
theorem dX12_net_111 : decode cX12_net 111 = .ok (.ireturn, 1) := by decide +kernel
theorem dX12_net_112 : decode cX12_net 112 = .ok (.aload_n 0, 1) := by decide +kernel
theorem dX12_net_113 : decode cX12_net 113 = .ok (.iload_n 1, 1) := by decide +kernel
theorem dX12_net_114 : decode cX12_net 114 = .ok (.invokevirtual 383, 3) := by decide +kernel
theorem dX12_net_117 : decode cX12_net 117 = .ok (.ireturn, 1) := by decide +kernel
theorem dX12_net_118 : decode cX12_net 118 = .ok (.aload_n 0, 1) := by decide +kernel
theorem dX12_net_119 : decode cX12_net 119 = .ok (.iload_n 1, 1) := by decide +kernel
theorem dX12_net_120 : decode cX12_net 120 = .ok (.invokevirtual 399, 3) := by decide +kernel
theorem dX12_net_123 : decode cX12_net 123 = .ok (.ireturn, 1) := by decide +kernel
theorem dX12_isThere_0 : decode cX12_isThere 0 = .ok (.aload_n 0, 1) := by decide +kernel
theorem dX12_isThere_1 : decode cX12_isThere 1 = .ok (.iconst 0, 1) := by decide +kernel
theorem dX12_isThere_2 : decode cX12_isThere 2 = .ok (.putfield 371, 3) := by decide +kernel
theorem dX12_isThere_5 : decode cX12_isThere 5 = .ok (.aload_n 0, 1) := by decide +kernel
theorem dX12_isThere_6 : decode cX12_isThere 6 = .ok (.iload_n 1, 1) := by decide +kernel
theorem dX12_isThere_7 : decode cX12_isThere 7 = .ok (.invokevirtual 327, 3) := by decide +kernel
theorem dX12_isThere_10 : decode cX12_isThere 10 = .ok (.ifCond .eq 15, 3) := by decide +kernel
theorem dX12_isThere_13 : decode cX12_isThere 13 = .ok (.aload_n 0, 1) := by decide +kernel
theorem dX12_isThere_14 : decode cX12_isThere 14 = .ok (.iload_n 1, 1) := by decide +kernel
theorem dX12_isThere_15 : decode cX12_isThere 15 = .ok (.invokevirtual 380, 3) := by decide +kernel
theorem dX12_isThere_18 : decode cX12_isThere 18 = .ok (.ifCond .eq 7, 3) := by decide +kernel
theorem dX12_isThere_21 : decode cX12_isThere 21 = .ok (.iconst 1, 1) := by decide +kernel
theorem dX12_isThere_22 : decode cX12_isThere 22 = .ok (.goto 4, 3) := by decide +kernel
theorem dX12_isThere_25 : decode cX12_isThere 25 = .ok (.iconst 0, 1) := by decide +kernel
theorem dX12_isThere_26 : decode cX12_isThere 26 = .ok (.ireturn, 1) := by decide +kernel
theorem dX12_carries_0 : decode cX12_carries 0 = .ok (.aload_n 0, 1) := by decide +kernel
theorem dX12_carries_1 : decode cX12_carries 1 = .ok (.iconst 0, 1) := by decide +kernel
theorem dX12_carries_2 : decode cX12_carries 2 = .ok (.putfield 153, 3) := by decide +kernel
theorem dX12_carries_5 : decode cX12_carries 5 = .ok (.aload_n 0, 1) := by decide +kernel
theorem dX12_carries_6 : decode cX12_carries 6 = .ok (.iload_n 1, 1) := by decide +kernel
theorem dX12_carries_7 : decode cX12_carries 7 = .ok (.invokevirtual 450, 3) := by decide +kernel
theorem dX12_carries_10 : decode cX12_carries 10 = .ok (.ifCond .eq 11, 3) := by decide +kernel
theorem dX12_carries_13 : decode cX12_carries 13 = .ok (.aload_n 0, 1) := by decide +kernel
theorem dX12_carries_14 : decode cX12_carries 14 = .ok (.iload_n 1, 1) := by decide +kernel
theorem dX12_carries_15 : decode cX12_carries 15 = .ok (.invokevirtual 419, 3) := by decide +kernel
theorem dX12_carries_18 : decode cX12_carries 18 = .ok (.goto 6, 3) := by decide +kernel
theorem dX12_carries_21 : decode cX12_carries 21 = .ok (.ldc2_w 432, 3) := by decide +kernel
theorem dX12_carries_24 : decode cX12_carries 24 = .ok (.lreturn, 1) := by decide +kernel
theorem dX12_liftOf_0 : decode cX12_liftOf 0 = .ok (.iconst 0, 1) := by decide +kernel
theorem dX12_liftOf_1 : decode cX12_liftOf 1 = .ok (.istore_n 2, 1) := by decide +kernel
theorem dX12_liftOf_2 : decode cX12_liftOf 2 = .ok (.iconst 0, 1) := by decide +kernel
theorem dX12_liftOf_3 : decode cX12_liftOf 3 = .ok (.istore_n 3, 1) := by decide +kernel
theorem dX12_liftOf_4 : decode cX12_liftOf 4 = .ok (.iload_n 3, 1) := by decide +kernel
theorem dX12_liftOf_5 : decode cX12_liftOf 5 = .ok (.aload_n 0, 1) := by decide +kernel
theorem dX12_liftOf_6 : decode cX12_liftOf 6 = .ok (.getfield 15, 3) := by decide +kernel
theorem dX12_liftOf_9 : decode cX12_liftOf 9 = .ok (.iconst 0, 1) := by decide +kernel
theorem dX12_liftOf_10 : decode cX12_liftOf 10 = .ok (.iaload, 1) := by decide +kernel
theorem dX12_liftOf_11 : decode cX12_liftOf 11 = .ok (.if_icmp .ge 34, 3) := by decide +kernel
theorem dX12_liftOf_14 : decode cX12_liftOf 14 = .ok (.aload_n 0, 1) := by decide +kernel
theorem dX12_liftOf_15 : decode cX12_liftOf 15 = .ok (.iload_n 3, 1) := by decide +kernel
theorem dX12_liftOf_16 : decode cX12_liftOf 16 = .ok (.iload_n 1, 1) := by decide +kernel
theorem dX12_liftOf_17 : decode cX12_liftOf 17 = .ok (.invokevirtual 416, 3) := by decide +kernel
theorem dX12_liftOf_20 : decode cX12_liftOf 20 = .ok (.ifCond .eq 19, 3) := by decide +kernel
theorem dX12_liftOf_23 : decode cX12_liftOf 23 = .ok (.iload_n 2, 1) := by decide +kernel
theorem dX12_liftOf_24 : decode cX12_liftOf 24 = .ok (.aload_n 0, 1) := by decide +kernel
theorem dX12_liftOf_25 : decode cX12_liftOf 25 = .ok (.iload_n 3, 1) := by decide +kernel
theorem dX12_liftOf_26 : decode cX12_liftOf 26 = .ok (.invokevirtual 389, 3) := by decide +kernel
theorem dX12_liftOf_29 : decode cX12_liftOf 29 = .ok (.aload_n 0, 1) := by decide +kernel
theorem dX12_liftOf_30 : decode cX12_liftOf 30 = .ok (.iload_n 1, 1) := by decide +kernel
theorem dX12_liftOf_31 : decode cX12_liftOf 31 = .ok (.invokevirtual 386, 3) := by decide +kernel
theorem dX12_liftOf_34 : decode cX12_liftOf 34 = .ok (.isub, 1) := by decide +kernel
theorem dX12_liftOf_35 : decode cX12_liftOf 35 = .ok (.invokestatic 367, 3) := by decide +kernel
theorem dX12_liftOf_38 : decode cX12_liftOf 38 = .ok (.istore_n 2, 1) := by decide +kernel
theorem dX12_liftOf_39 : decode cX12_liftOf 39 = .ok (.iinc 3 1, 3) := by decide +kernel
theorem dX12_liftOf_42 : decode cX12_liftOf 42 = .ok (.goto (-38), 3) := by decide +kernel
theorem dX12_liftOf_45 : decode cX12_liftOf 45 = .ok (.iload_n 2, 1) := by decide +kernel
theorem dX12_liftOf_46 : decode cX12_liftOf 46 = .ok (.ireturn, 1) := by decide +kernel
theorem dX12_costOf_0 : decode cX12_costOf 0 = .ok (.aload_n 0, 1) := by decide +kernel
theorem dX12_costOf_1 : decode cX12_costOf 1 = .ok (.iload_n 1, 1) := by decide +kernel
theorem dX12_costOf_2 : decode cX12_costOf 2 = .ok (.aload_n 0, 1) := by decide +kernel
theorem dX12_costOf_3 : decode cX12_costOf 3 = .ok (.iload_n 1, 1) := by decide +kernel
theorem dX12_costOf_4 : decode cX12_costOf 4 = .ok (.invokevirtual 396, 3) := by decide +kernel
theorem dX12_costOf_7 : decode cX12_costOf 7 = .ok (.aload_n 0, 1) := by decide +kernel
theorem dX12_costOf_8 : decode cX12_costOf 8 = .ok (.iload_n 1, 1) := by decide +kernel
theorem dX12_costOf_9 : decode cX12_costOf 9 = .ok (.invokevirtual 374, 3) := by decide +kernel
theorem dX12_costOf_12 : decode cX12_costOf 12 = .ok (.aload_n 0, 1) := by decide +kernel
theorem dX12_costOf_13 : decode cX12_costOf 13 = .ok (.iload_n 1, 1) := by decide +kernel
theorem dX12_costOf_14 : decode cX12_costOf 14 = .ok (.invokevirtual 386, 3) := by decide +kernel
theorem dX12_costOf_17 : decode cX12_costOf 17 = .ok (.aload_n 0, 1) := by decide +kernel
theorem dX12_costOf_18 : decode cX12_costOf 18 = .ok (.iload_n 1, 1) := by decide +kernel
theorem dX12_costOf_19 : decode cX12_costOf 19 = .ok (.invokevirtual 389, 3) := by decide +kernel
theorem dX12_costOf_22 : decode cX12_costOf 22 = .ok (.invokevirtual 453, 3) := by decide +kernel
theorem dX12_costOf_25 : decode cX12_costOf 25 = .ok (.lreturn, 1) := by decide +kernel
theorem dX12_cost_0 : decode cX12_cost 0 = .ok (.aload_n 0, 1) := by decide +kernel
theorem dX12_cost_1 : decode cX12_cost 1 = .ok (.iconst 0, 1) := by decide +kernel
theorem dX12_cost_2 : decode cX12_cost 2 = .ok (.putfield 153, 3) := by decide +kernel
theorem dX12_cost_5 : decode cX12_cost 5 = .ok (.aload_n 0, 1) := by decide +kernel
theorem dX12_cost_6 : decode cX12_cost 6 = .ok (.iload_n 1, 1) := by decide +kernel
theorem dX12_cost_7 : decode cX12_cost 7 = .ok (.invokevirtual 450, 3) := by decide +kernel
theorem dX12_cost_10 : decode cX12_cost 10 = .ok (.ifCond .eq 12, 3) := by decide +kernel
theorem dX12_cost_13 : decode cX12_cost 13 = .ok (.iload_n 2, 1) := by decide +kernel
theorem dX12_cost_14 : decode cX12_cost 14 = .ok (.ifCond .lt 8, 3) := by decide +kernel
theorem dX12_cost_17 : decode cX12_cost 17 = .ok (.iload_n 2, 1) := by decide +kernel
theorem dX12_cost_18 : decode cX12_cost 18 = .ok (.iconst 1, 1) := by decide +kernel
theorem dX12_cost_19 : decode cX12_cost 19 = .ok (.if_icmp .le 7, 3) := by decide +kernel
theorem dX12_cost_22 : decode cX12_cost 22 = .ok (.ldc2_w 432, 3) := by decide +kernel
theorem dX12_cost_25 : decode cX12_cost 25 = .ok (.lreturn, 1) := by decide +kernel
theorem dX12_cost_26 : decode cX12_cost 26 = .ok (.aload_n 0, 1) := by decide +kernel
theorem dX12_cost_27 : decode cX12_cost 27 = .ok (.iconst 0, 1) := by decide +kernel
theorem dX12_cost_28 : decode cX12_cost 28 = .ok (.invokevirtual 457, 3) := by decide +kernel
theorem dX12_cost_31 : decode cX12_cost 31 = .ok (.iload_n 2, 1) := by decide +kernel
theorem dX12_cost_32 : decode cX12_cost 32 = .ok (.ifCond .ne 11, 3) := by decide +kernel
theorem dX12_cost_35 : decode cX12_cost 35 = .ok (.aload_n 0, 1) := by decide +kernel
theorem dX12_cost_36 : decode cX12_cost 36 = .ok (.iload_n 1, 1) := by decide +kernel
theorem dX12_cost_37 : decode cX12_cost 37 = .ok (.invokevirtual 461, 3) := by decide +kernel
theorem dX12_cost_40 : decode cX12_cost 40 = .ok (.goto 17, 3) := by decide +kernel
theorem dX12_cost_43 : decode cX12_cost 43 = .ok (.aload_n 0, 1) := by decide +kernel
theorem dX12_cost_44 : decode cX12_cost 44 = .ok (.aload_n 0, 1) := by decide +kernel
theorem dX12_cost_45 : decode cX12_cost 45 = .ok (.iload_n 1, 1) := by decide +kernel
theorem dX12_cost_46 : decode cX12_cost 46 = .ok (.invokevirtual 464, 3) := by decide +kernel
theorem dX12_cost_49 : decode cX12_cost 49 = .ok (.aload_n 0, 1) := by decide +kernel
theorem dX12_cost_50 : decode cX12_cost 50 = .ok (.iload_n 1, 1) := by decide +kernel
theorem dX12_cost_51 : decode cX12_cost 51 = .ok (.invokevirtual 467, 3) := by decide +kernel
theorem dX12_cost_54 : decode cX12_cost 54 = .ok (.invokevirtual 470, 3) := by decide +kernel
theorem dX12_cost_57 : decode cX12_cost 57 = .ok (.lreturn, 1) := by decide +kernel
theorem dX12_all_0 : decode cX12_all 0 = .ok (.aload_n 0, 1) := by decide +kernel
theorem dX12_all_1 : decode cX12_all 1 = .ok (.iconst 0, 1) := by decide +kernel
theorem dX12_all_2 : decode cX12_all 2 = .ok (.putfield 153, 3) := by decide +kernel
theorem dX12_all_5 : decode cX12_all 5 = .ok (.aload_n 0, 1) := by decide +kernel
theorem dX12_all_6 : decode cX12_all 6 = .ok (.iconst 0, 1) := by decide +kernel
theorem dX12_all_7 : decode cX12_all 7 = .ok (.putfield 371, 3) := by decide +kernel
theorem dX12_all_10 : decode cX12_all 10 = .ok (.aload_n 0, 1) := by decide +kernel
theorem dX12_all_11 : decode cX12_all 11 = .ok (.iconst 0, 1) := by decide +kernel
theorem dX12_all_12 : decode cX12_all 12 = .ok (.invokevirtual 457, 3) := by decide +kernel
theorem dX12_all_15 : decode cX12_all 15 = .ok (.lconst 0, 1) := by decide +kernel
theorem dX12_all_16 : decode cX12_all 16 = .ok (.lstore_n 1, 1) := by decide +kernel
theorem dX12_all_17 : decode cX12_all 17 = .ok (.iconst 0, 1) := by decide +kernel
theorem dX12_all_18 : decode cX12_all 18 = .ok (.istore_n 3, 1) := by decide +kernel
theorem dX12_all_19 : decode cX12_all 19 = .ok (.iload_n 3, 1) := by decide +kernel
theorem dX12_all_20 : decode cX12_all 20 = .ok (.aload_n 0, 1) := by decide +kernel
theorem dX12_all_21 : decode cX12_all 21 = .ok (.getfield 15, 3) := by decide +kernel
theorem dX12_all_24 : decode cX12_all 24 = .ok (.iconst 0, 1) := by decide +kernel
theorem dX12_all_25 : decode cX12_all 25 = .ok (.iaload, 1) := by decide +kernel
theorem dX12_all_26 : decode cX12_all 26 = .ok (.if_icmp .ge 40, 3) := by decide +kernel
theorem dX12_all_29 : decode cX12_all 29 = .ok (.aload_n 0, 1) := by decide +kernel
theorem dX12_all_30 : decode cX12_all 30 = .ok (.iload_n 3, 1) := by decide +kernel
theorem dX12_all_31 : decode cX12_all 31 = .ok (.invokevirtual 380, 3) := by decide +kernel
theorem dX12_all_34 : decode cX12_all 34 = .ok (.ifCond .eq 26, 3) := by decide +kernel
theorem dX12_all_37 : decode cX12_all 37 = .ok (.lload_n 1, 1) := by decide +kernel
theorem dX12_all_38 : decode cX12_all 38 = .ok (.aload_n 0, 1) := by decide +kernel
theorem dX12_all_39 : decode cX12_all 39 = .ok (.iload_n 3, 1) := by decide +kernel
theorem dX12_all_40 : decode cX12_all 40 = .ok (.invokevirtual 461, 3) := by decide +kernel
theorem dX12_all_43 : decode cX12_all 43 = .ok (.aload_n 0, 1) := by decide +kernel
theorem dX12_all_44 : decode cX12_all 44 = .ok (.aload_n 0, 1) := by decide +kernel
theorem dX12_all_45 : decode cX12_all 45 = .ok (.iload_n 3, 1) := by decide +kernel
theorem dX12_all_46 : decode cX12_all 46 = .ok (.invokevirtual 464, 3) := by decide +kernel
theorem dX12_all_49 : decode cX12_all 49 = .ok (.aload_n 0, 1) := by decide +kernel
theorem dX12_all_50 : decode cX12_all 50 = .ok (.iload_n 3, 1) := by decide +kernel
theorem dX12_all_51 : decode cX12_all 51 = .ok (.invokevirtual 467, 3) := by decide +kernel
theorem dX12_all_54 : decode cX12_all 54 = .ok (.invokevirtual 470, 3) := by decide +kernel
theorem dX12_all_57 : decode cX12_all 57 = .ok (.ladd, 1) := by decide +kernel
theorem dX12_all_58 : decode cX12_all 58 = .ok (.ladd, 1) := by decide +kernel
theorem dX12_all_59 : decode cX12_all 59 = .ok (.lstore_n 1, 1) := by decide +kernel
theorem dX12_all_60 : decode cX12_all 60 = .ok (.iinc 3 1, 3) := by decide +kernel
theorem dX12_all_63 : decode cX12_all 63 = .ok (.goto (-44), 3) := by decide +kernel
theorem dX12_all_66 : decode cX12_all 66 = .ok (.lload_n 1, 1) := by decide +kernel
theorem dX12_all_67 : decode cX12_all 67 = .ok (.lreturn, 1) := by decide +kernel
theorem dX12_isCovered_0 : decode cX12_isCovered 0 = .ok (.iload_n 1, 1) := by decide +kernel
theorem dX12_isCovered_1 : decode cX12_isCovered 1 = .ok (.aload_n 0, 1) := by decide +kernel
theorem dX12_isCovered_2 : decode cX12_isCovered 2 = .ok (.getfield 15, 3) := by decide +kernel
theorem dX12_isCovered_5 : decode cX12_isCovered 5 = .ok (.bipush 8, 2) := by decide +kernel
theorem dX12_isCovered_7 : decode cX12_isCovered 7 = .ok (.iaload, 1) := by decide +kernel
theorem dX12_isCovered_8 : decode cX12_isCovered 8 = .ok (.if_icmp .lt 18, 3) := by decide +kernel
theorem dX12_isCovered_11 : decode cX12_isCovered 11 = .ok (.iload_n 1, 1) := by decide +kernel
theorem dX12_isCovered_12 : decode cX12_isCovered 12 = .ok (.aload_n 0, 1) := by decide +kernel
theorem dX12_isCovered_13 : decode cX12_isCovered 13 = .ok (.getfield 15, 3) := by decide +kernel
theorem dX12_isCovered_16 : decode cX12_isCovered 16 = .ok (.bipush 9, 2) := by decide +kernel
theorem dX12_isCovered_18 : decode cX12_isCovered 18 = .ok (.iaload, 1) := by decide +kernel
theorem dX12_isCovered_19 : decode cX12_isCovered 19 = .ok (.if_icmp .gt 7, 3) := by decide +kernel
theorem dX12_isCovered_22 : decode cX12_isCovered 22 = .ok (.iconst 1, 1) := by decide +kernel
theorem dX12_isCovered_23 : decode cX12_isCovered 23 = .ok (.goto 4, 3) := by decide +kernel
theorem dX12_isCovered_26 : decode cX12_isCovered 26 = .ok (.iconst 0, 1) := by decide +kernel
theorem dX12_isCovered_27 : decode cX12_isCovered 27 = .ok (.ireturn, 1) := by decide +kernel
theorem dX12_breaks_0 : decode cX12_breaks 0 = .ok (.aload_n 0, 1) := by decide +kernel
theorem dX12_breaks_1 : decode cX12_breaks 1 = .ok (.iload_n 1, 1) := by decide +kernel
theorem dX12_breaks_2 : decode cX12_breaks 2 = .ok (.invokevirtual 374, 3) := by decide +kernel
theorem dX12_breaks_5 : decode cX12_breaks 5 = .ok (.istore_n 2, 1) := by decide +kernel
theorem dX12_breaks_6 : decode cX12_breaks 6 = .ok (.aload_n 0, 1) := by decide +kernel
theorem dX12_breaks_7 : decode cX12_breaks 7 = .ok (.aload_n 0, 1) := by decide +kernel
theorem dX12_breaks_8 : decode cX12_breaks 8 = .ok (.iload_n 1, 1) := by decide +kernel
theorem dX12_breaks_9 : decode cX12_breaks 9 = .ok (.invokevirtual 386, 3) := by decide +kernel
theorem dX12_breaks_12 : decode cX12_breaks 12 = .ok (.invokevirtual 473, 3) := by decide +kernel
theorem dX12_breaks_15 : decode cX12_breaks 15 = .ok (.ifCond .eq 15, 3) := by decide +kernel
theorem dX12_breaks_18 : decode cX12_breaks 18 = .ok (.aload_n 0, 1) := by decide +kernel
theorem dX12_breaks_19 : decode cX12_breaks 19 = .ok (.aload_n 0, 1) := by decide +kernel
theorem dX12_breaks_20 : decode cX12_breaks 20 = .ok (.iload_n 1, 1) := by decide +kernel
theorem dX12_breaks_21 : decode cX12_breaks 21 = .ok (.invokevirtual 389, 3) := by decide +kernel
theorem dX12_breaks_24 : decode cX12_breaks 24 = .ok (.invokevirtual 473, 3) := by decide +kernel
theorem dX12_breaks_27 : decode cX12_breaks 27 = .ok (.ifCond .ne 5, 3) := by decide +kernel
theorem dX12_breaks_30 : decode cX12_breaks 30 = .ok (.iconst 1, 1) := by decide +kernel
theorem dX12_breaks_31 : decode cX12_breaks 31 = .ok (.ireturn, 1) := by decide +kernel
theorem dX12_breaks_32 : decode cX12_breaks 32 = .ok (.aload_n 0, 1) := by decide +kernel
theorem dX12_breaks_33 : decode cX12_breaks 33 = .ok (.iload_n 1, 1) := by decide +kernel
theorem dX12_breaks_34 : decode cX12_breaks 34 = .ok (.invokevirtual 399, 3) := by decide +kernel
theorem dX12_breaks_37 : decode cX12_breaks 37 = .ok (.aload_n 0, 1) := by decide +kernel
theorem dX12_breaks_38 : decode cX12_breaks 38 = .ok (.getfield 36, 3) := by decide +kernel
theorem dX12_breaks_41 : decode cX12_breaks 41 = .ok (.iload_n 2, 1) := by decide +kernel
theorem dX12_breaks_42 : decode cX12_breaks 42 = .ok (.iaload, 1) := by decide +kernel
theorem dX12_breaks_43 : decode cX12_breaks 43 = .ok (.aload_n 0, 1) := by decide +kernel
theorem dX12_breaks_44 : decode cX12_breaks 44 = .ok (.getfield 15, 3) := by decide +kernel
theorem dX12_breaks_47 : decode cX12_breaks 47 = .ok (.bipush 6, 2) := by decide +kernel
theorem dX12_breaks_49 : decode cX12_breaks 49 = .ok (.iaload, 1) := by decide +kernel
theorem dX12_breaks_50 : decode cX12_breaks 50 = .ok (.imul, 1) := by decide +kernel
theorem dX12_breaks_51 : decode cX12_breaks 51 = .ok (.if_icmp .ge 5, 3) := by decide +kernel
theorem dX12_breaks_54 : decode cX12_breaks 54 = .ok (.iconst 2, 1) := by decide +kernel
theorem dX12_breaks_55 : decode cX12_breaks 55 = .ok (.ireturn, 1) := by decide +kernel
theorem dX12_breaks_56 : decode cX12_breaks 56 = .ok (.aload_n 0, 1) := by decide +kernel
theorem dX12_breaks_57 : decode cX12_breaks 57 = .ok (.iload_n 1, 1) := by decide +kernel
theorem dX12_breaks_58 : decode cX12_breaks 58 = .ok (.invokevirtual 399, 3) := by decide +kernel
theorem dX12_breaks_61 : decode cX12_breaks 61 = .ok (.aload_n 0, 1) := by decide +kernel
theorem dX12_breaks_62 : decode cX12_breaks 62 = .ok (.getfield 36, 3) := by decide +kernel
theorem dX12_breaks_65 : decode cX12_breaks 65 = .ok (.iload_n 2, 1) := by decide +kernel
theorem dX12_breaks_66 : decode cX12_breaks 66 = .ok (.iaload, 1) := by decide +kernel
theorem dX12_breaks_67 : decode cX12_breaks 67 = .ok (.aload_n 0, 1) := by decide +kernel
theorem dX12_breaks_68 : decode cX12_breaks 68 = .ok (.getfield 15, 3) := by decide +kernel
theorem dX12_breaks_71 : decode cX12_breaks 71 = .ok (.bipush 7, 2) := by decide +kernel
theorem dX12_breaks_73 : decode cX12_breaks 73 = .ok (.iaload, 1) := by decide +kernel
theorem dX12_breaks_74 : decode cX12_breaks 74 = .ok (.imul, 1) := by decide +kernel
theorem dX12_breaks_75 : decode cX12_breaks 75 = .ok (.if_icmp .le 5, 3) := by decide +kernel
theorem dX12_breaks_78 : decode cX12_breaks 78 = .ok (.iconst 3, 1) := by decide +kernel
theorem dX12_breaks_79 : decode cX12_breaks 79 = .ok (.ireturn, 1) := by decide +kernel
theorem dX12_breaks_80 : decode cX12_breaks 80 = .ok (.iconst 0, 1) := by decide +kernel
theorem dX12_breaks_81 : decode cX12_breaks 81 = .ok (.istore_n 3, 1) := by decide +kernel
theorem dX12_breaks_82 : decode cX12_breaks 82 = .ok (.iload_n 3, 1) := by decide +kernel
theorem dX12_breaks_83 : decode cX12_breaks 83 = .ok (.aload_n 0, 1) := by decide +kernel
theorem dX12_breaks_84 : decode cX12_breaks 84 = .ok (.getfield 15, 3) := by decide +kernel
theorem dX12_breaks_87 : decode cX12_breaks 87 = .ok (.iconst 0, 1) := by decide +kernel
theorem dX12_breaks_88 : decode cX12_breaks 88 = .ok (.iaload, 1) := by decide +kernel
theorem dX12_breaks_89 : decode cX12_breaks 89 = .ok (.if_icmp .ge 43, 3) := by decide +kernel
theorem dX12_breaks_92 : decode cX12_breaks 92 = .ok (.aload_n 0, 1) := by decide +kernel
theorem dX12_breaks_93 : decode cX12_breaks 93 = .ok (.iload_n 3, 1) := by decide +kernel
theorem dX12_breaks_94 : decode cX12_breaks 94 = .ok (.iload_n 1, 1) := by decide +kernel
theorem dX12_breaks_95 : decode cX12_breaks 95 = .ok (.invokevirtual 416, 3) := by decide +kernel
theorem dX12_breaks_98 : decode cX12_breaks 98 = .ok (.ifCond .eq 28, 3) := by decide +kernel
theorem dX12_breaks_101 : decode cX12_breaks 101 = .ok (.aload_n 0, 1) := by decide +kernel
theorem dX12_breaks_102 : decode cX12_breaks 102 = .ok (.getfield 45, 3) := by decide +kernel
theorem dX12_breaks_105 : decode cX12_breaks 105 = .ok (.aload_n 0, 1) := by decide +kernel
theorem dX12_breaks_106 : decode cX12_breaks 106 = .ok (.iload_n 3, 1) := by decide +kernel
theorem dX12_breaks_107 : decode cX12_breaks 107 = .ok (.invokevirtual 396, 3) := by decide +kernel
theorem dX12_breaks_110 : decode cX12_breaks 110 = .ok (.iaload, 1) := by decide +kernel
theorem dX12_breaks_111 : decode cX12_breaks 111 = .ok (.aload_n 0, 1) := by decide +kernel
theorem dX12_breaks_112 : decode cX12_breaks 112 = .ok (.getfield 45, 3) := by decide +kernel
theorem dX12_breaks_115 : decode cX12_breaks 115 = .ok (.aload_n 0, 1) := by decide +kernel
theorem dX12_breaks_116 : decode cX12_breaks 116 = .ok (.iload_n 1, 1) := by decide +kernel
theorem dX12_breaks_117 : decode cX12_breaks 117 = .ok (.invokevirtual 396, 3) := by decide +kernel
theorem dX12_breaks_120 : decode cX12_breaks 120 = .ok (.iaload, 1) := by decide +kernel
theorem dX12_breaks_121 : decode cX12_breaks 121 = .ok (.if_icmp .le 5, 3) := by decide +kernel
theorem dX12_breaks_124 : decode cX12_breaks 124 = .ok (.iconst 4, 1) := by decide +kernel
theorem dX12_breaks_125 : decode cX12_breaks 125 = .ok (.ireturn, 1) := by decide +kernel
theorem dX12_breaks_126 : decode cX12_breaks 126 = .ok (.iinc 3 1, 3) := by decide +kernel
theorem dX12_breaks_129 : decode cX12_breaks 129 = .ok (.goto (-47), 3) := by decide +kernel
theorem dX12_breaks_132 : decode cX12_breaks 132 = .ok (.aload_n 0, 1) := by decide +kernel
theorem dX12_breaks_133 : decode cX12_breaks 133 = .ok (.iload_n 1, 1) := by decide +kernel
theorem dX12_breaks_134 : decode cX12_breaks 134 = .ok (.invokevirtual 464, 3) := by decide +kernel
theorem dX12_breaks_137 : decode cX12_breaks 137 = .ok (.ifCond .le 13, 3) := by decide +kernel
theorem dX12_breaks_140 : decode cX12_breaks 140 = .ok (.aload_n 0, 1) := by decide +kernel
theorem dX12_breaks_141 : decode cX12_breaks 141 = .ok (.iconst 2, 1) := by decide +kernel
theorem dX12_breaks_142 : decode cX12_breaks 142 = .ok (.invokevirtual 360, 3) := by decide +kernel
theorem dX12_breaks_145 : decode cX12_breaks 145 = .ok (.ifCond .ne 5, 3) := by decide +kernel
theorem dX12_breaks_148 : decode cX12_breaks 148 = .ok (.iconst 5, 1) := by decide +kernel
theorem dX12_breaks_149 : decode cX12_breaks 149 = .ok (.ireturn, 1) := by decide +kernel
theorem dX12_breaks_150 : decode cX12_breaks 150 = .ok (.aload_n 0, 1) := by decide +kernel
theorem dX12_breaks_151 : decode cX12_breaks 151 = .ok (.iload_n 1, 1) := by decide +kernel
theorem dX12_breaks_152 : decode cX12_breaks 152 = .ok (.invokevirtual 467, 3) := by decide +kernel
theorem dX12_breaks_155 : decode cX12_breaks 155 = .ok (.aload_n 0, 1) := by decide +kernel
theorem dX12_breaks_156 : decode cX12_breaks 156 = .ok (.iload_n 1, 1) := by decide +kernel
theorem dX12_breaks_157 : decode cX12_breaks 157 = .ok (.invokevirtual 419, 3) := by decide +kernel
theorem dX12_breaks_160 : decode cX12_breaks 160 = .ok (.lcmp, 1) := by decide +kernel
theorem dX12_breaks_161 : decode cX12_breaks 161 = .ok (.ifCond .le 8, 3) := by decide +kernel
theorem dX12_breaks_164 : decode cX12_breaks 164 = .ok (.bipush 6, 2) := by decide +kernel
theorem dX12_breaks_166 : decode cX12_breaks 166 = .ok (.goto 4, 3) := by decide +kernel
theorem dX12_breaks_169 : decode cX12_breaks 169 = .ok (.iconst 0, 1) := by decide +kernel
theorem dX12_breaks_170 : decode cX12_breaks 170 = .ok (.ireturn, 1) := by decide +kernel
theorem dX12_broken_0 : decode cX12_broken 0 = .ok (.aload_n 0, 1) := by decide +kernel
theorem dX12_broken_1 : decode cX12_broken 1 = .ok (.iconst 0, 1) := by decide +kernel
theorem dX12_broken_2 : decode cX12_broken 2 = .ok (.putfield 153, 3) := by decide +kernel
theorem dX12_broken_5 : decode cX12_broken 5 = .ok (.aload_n 0, 1) := by decide +kernel
theorem dX12_broken_6 : decode cX12_broken 6 = .ok (.iconst 0, 1) := by decide +kernel
theorem dX12_broken_7 : decode cX12_broken 7 = .ok (.putfield 371, 3) := by decide +kernel
theorem dX12_broken_10 : decode cX12_broken 10 = .ok (.aload_n 0, 1) := by decide +kernel
theorem dX12_broken_11 : decode cX12_broken 11 = .ok (.iload_n 1, 1) := by decide +kernel
theorem dX12_broken_12 : decode cX12_broken 12 = .ok (.invokevirtual 327, 3) := by decide +kernel
theorem dX12_broken_15 : decode cX12_broken 15 = .ok (.ifCond .ne 5, 3) := by decide +kernel
theorem dX12_broken_18 : decode cX12_broken 18 = .ok (.iconst (-1), 1) := by decide +kernel
theorem dX12_broken_19 : decode cX12_broken 19 = .ok (.ireturn, 1) := by decide +kernel
theorem dX12_broken_20 : decode cX12_broken 20 = .ok (.aload_n 0, 1) := by decide +kernel
theorem dX12_broken_21 : decode cX12_broken 21 = .ok (.iload_n 1, 1) := by decide +kernel
theorem dX12_broken_22 : decode cX12_broken 22 = .ok (.invokevirtual 380, 3) := by decide +kernel
theorem dX12_broken_25 : decode cX12_broken 25 = .ok (.ifCond .ne 6, 3) := by decide +kernel
theorem dX12_broken_28 : decode cX12_broken 28 = .ok (.bipush (-2), 2) := by decide +kernel
theorem dX12_broken_30 : decode cX12_broken 30 = .ok (.ireturn, 1) := by decide +kernel
theorem dX12_broken_31 : decode cX12_broken 31 = .ok (.aload_n 0, 1) := by decide +kernel
theorem dX12_broken_32 : decode cX12_broken 32 = .ok (.iconst 0, 1) := by decide +kernel
theorem dX12_broken_33 : decode cX12_broken 33 = .ok (.invokevirtual 457, 3) := by decide +kernel
theorem dX12_broken_36 : decode cX12_broken 36 = .ok (.aload_n 0, 1) := by decide +kernel
theorem dX12_broken_37 : decode cX12_broken 37 = .ok (.iload_n 1, 1) := by decide +kernel
theorem dX12_broken_38 : decode cX12_broken 38 = .ok (.invokevirtual 476, 3) := by decide +kernel
theorem dX12_broken_41 : decode cX12_broken 41 = .ok (.ireturn, 1) := by decide +kernel
theorem dX12_isJoined_0 : decode cX12_isJoined 0 = .ok (.aload_n 0, 1) := by decide +kernel
theorem dX12_isJoined_1 : decode cX12_isJoined 1 = .ok (.getfield 15, 3) := by decide +kernel
theorem dX12_isJoined_4 : decode cX12_isJoined 4 = .ok (.iconst 4, 1) := by decide +kernel
theorem dX12_isJoined_5 : decode cX12_isJoined 5 = .ok (.iaload, 1) := by decide +kernel
theorem dX12_isJoined_6 : decode cX12_isJoined 6 = .ok (.iconst (-1), 1) := by decide +kernel
theorem dX12_isJoined_7 : decode cX12_isJoined 7 = .ok (.if_icmp .ne 5, 3) := by decide +kernel
theorem dX12_isJoined_10 : decode cX12_isJoined 10 = .ok (.iconst 0, 1) := by decide +kernel
theorem dX12_isJoined_11 : decode cX12_isJoined 11 = .ok (.ireturn, 1) := by decide +kernel
theorem dX12_isJoined_12 : decode cX12_isJoined 12 = .ok (.iconst 0, 1) := by decide +kernel
theorem dX12_isJoined_13 : decode cX12_isJoined 13 = .ok (.istore_n 1, 1) := by decide +kernel
theorem dX12_isJoined_14 : decode cX12_isJoined 14 = .ok (.iload_n 1, 1) := by decide +kernel
theorem dX12_isJoined_15 : decode cX12_isJoined 15 = .ok (.aload_n 0, 1) := by decide +kernel
theorem dX12_isJoined_16 : decode cX12_isJoined 16 = .ok (.getfield 15, 3) := by decide +kernel
theorem dX12_isJoined_19 : decode cX12_isJoined 19 = .ok (.iconst 0, 1) := by decide +kernel
theorem dX12_isJoined_20 : decode cX12_isJoined 20 = .ok (.iaload, 1) := by decide +kernel
theorem dX12_isJoined_21 : decode cX12_isJoined 21 = .ok (.if_icmp .ge 19, 3) := by decide +kernel
theorem dX12_isJoined_24 : decode cX12_isJoined 24 = .ok (.aload_n 0, 1) := by decide +kernel
theorem dX12_isJoined_25 : decode cX12_isJoined 25 = .ok (.iload_n 1, 1) := by decide +kernel
theorem dX12_isJoined_26 : decode cX12_isJoined 26 = .ok (.invokevirtual 479, 3) := by decide +kernel
theorem dX12_isJoined_29 : decode cX12_isJoined 29 = .ok (.ifCond .ne 5, 3) := by decide +kernel
theorem dX12_isJoined_32 : decode cX12_isJoined 32 = .ok (.iconst 0, 1) := by decide +kernel
theorem dX12_isJoined_33 : decode cX12_isJoined 33 = .ok (.ireturn, 1) := by decide +kernel
theorem dX12_isJoined_34 : decode cX12_isJoined 34 = .ok (.iinc 1 1, 3) := by decide +kernel
theorem dX12_isJoined_37 : decode cX12_isJoined 37 = .ok (.goto (-23), 3) := by decide +kernel
theorem dX12_isJoined_40 : decode cX12_isJoined 40 = .ok (.iconst 1, 1) := by decide +kernel
theorem dX12_isJoined_41 : decode cX12_isJoined 41 = .ok (.ireturn, 1) := by decide +kernel
theorem dX12_judged_0 : decode cX12_judged 0 = .ok (.aload_n 0, 1) := by decide +kernel
theorem dX12_judged_1 : decode cX12_judged 1 = .ok (.iconst 0, 1) := by decide +kernel
theorem dX12_judged_2 : decode cX12_judged 2 = .ok (.putfield 153, 3) := by decide +kernel
theorem dX12_judged_5 : decode cX12_judged 5 = .ok (.iload_n 1, 1) := by decide +kernel
theorem dX12_judged_6 : decode cX12_judged 6 = .ok (.ifCond .lt 8, 3) := by decide +kernel
theorem dX12_judged_9 : decode cX12_judged 9 = .ok (.iload_n 1, 1) := by decide +kernel
theorem dX12_judged_10 : decode cX12_judged 10 = .ok (.iconst 1, 1) := by decide +kernel
theorem dX12_judged_11 : decode cX12_judged 11 = .ok (.if_icmp .le 5, 3) := by decide +kernel
theorem dX12_judged_14 : decode cX12_judged 14 = .ok (.iconst (-1), 1) := by decide +kernel
theorem dX12_judged_15 : decode cX12_judged 15 = .ok (.ireturn, 1) := by decide +kernel
theorem dX12_judged_16 : decode cX12_judged 16 = .ok (.aload_n 0, 1) := by decide +kernel
theorem dX12_judged_17 : decode cX12_judged 17 = .ok (.iconst 0, 1) := by decide +kernel
theorem dX12_judged_18 : decode cX12_judged 18 = .ok (.putfield 371, 3) := by decide +kernel
theorem dX12_judged_21 : decode cX12_judged 21 = .ok (.aload_n 0, 1) := by decide +kernel
theorem dX12_judged_22 : decode cX12_judged 22 = .ok (.invokevirtual 482, 3) := by decide +kernel
theorem dX12_judged_25 : decode cX12_judged 25 = .ok (.ifCond .ne 14, 3) := by decide +kernel
theorem dX12_judged_28 : decode cX12_judged 28 = .ok (.iload_n 1, 1) := by decide +kernel
theorem dX12_judged_29 : decode cX12_judged 29 = .ok (.ifCond .ne 8, 3) := by decide +kernel
theorem dX12_judged_32 : decode cX12_judged 32 = .ok (.bipush 7, 2) := by decide +kernel
theorem dX12_judged_34 : decode cX12_judged 34 = .ok (.goto 4, 3) := by decide +kernel
theorem dX12_judged_37 : decode cX12_judged 37 = .ok (.iconst (-1), 1) := by decide +kernel
theorem dX12_judged_38 : decode cX12_judged 38 = .ok (.ireturn, 1) := by decide +kernel
theorem dX12_judged_39 : decode cX12_judged 39 = .ok (.aload_n 0, 1) := by decide +kernel
theorem dX12_judged_40 : decode cX12_judged 40 = .ok (.iconst 0, 1) := by decide +kernel
theorem dX12_judged_41 : decode cX12_judged 41 = .ok (.invokevirtual 457, 3) := by decide +kernel
theorem dX12_judged_44 : decode cX12_judged 44 = .ok (.iconst 0, 1) := by decide +kernel
theorem dX12_judged_45 : decode cX12_judged 45 = .ok (.istore_n 2, 1) := by decide +kernel
theorem dX12_judged_46 : decode cX12_judged 46 = .ok (.iload_n 2, 1) := by decide +kernel
theorem dX12_judged_47 : decode cX12_judged 47 = .ok (.aload_n 0, 1) := by decide +kernel
theorem dX12_judged_48 : decode cX12_judged 48 = .ok (.getfield 15, 3) := by decide +kernel
theorem dX12_judged_51 : decode cX12_judged 51 = .ok (.iconst 0, 1) := by decide +kernel
theorem dX12_judged_52 : decode cX12_judged 52 = .ok (.iaload, 1) := by decide +kernel
theorem dX12_judged_53 : decode cX12_judged 53 = .ok (.if_icmp .ge 41, 3) := by decide +kernel
theorem dX12_judged_56 : decode cX12_judged 56 = .ok (.iload_n 2, 1) := by decide +kernel
theorem dX12_judged_57 : decode cX12_judged 57 = .ok (.aload_n 0, 1) := by decide +kernel
theorem dX12_judged_58 : decode cX12_judged 58 = .ok (.getfield 15, 3) := by decide +kernel
theorem dX12_judged_61 : decode cX12_judged 61 = .ok (.iconst 4, 1) := by decide +kernel
theorem dX12_judged_62 : decode cX12_judged 62 = .ok (.iaload, 1) := by decide +kernel
theorem dX12_judged_63 : decode cX12_judged 63 = .ok (.if_icmp .eq 25, 3) := by decide +kernel
theorem dX12_judged_66 : decode cX12_judged 66 = .ok (.aload_n 0, 1) := by decide +kernel
theorem dX12_judged_67 : decode cX12_judged 67 = .ok (.iload_n 2, 1) := by decide +kernel
theorem dX12_judged_68 : decode cX12_judged 68 = .ok (.invokevirtual 476, 3) := by decide +kernel
theorem dX12_judged_71 : decode cX12_judged 71 = .ok (.ifCond .eq 17, 3) := by decide +kernel
theorem dX12_judged_74 : decode cX12_judged 74 = .ok (.iload_n 1, 1) := by decide +kernel
theorem dX12_judged_75 : decode cX12_judged 75 = .ok (.ifCond .ne 11, 3) := by decide +kernel
theorem dX12_judged_78 : decode cX12_judged 78 = .ok (.aload_n 0, 1) := by decide +kernel
theorem dX12_judged_79 : decode cX12_judged 79 = .ok (.iload_n 2, 1) := by decide +kernel
theorem dX12_judged_80 : decode cX12_judged 80 = .ok (.invokevirtual 476, 3) := by decide +kernel
theorem dX12_judged_83 : decode cX12_judged 83 = .ok (.goto 4, 3) := by decide +kernel
theorem dX12_judged_86 : decode cX12_judged 86 = .ok (.iload_n 2, 1) := by decide +kernel
theorem dX12_judged_87 : decode cX12_judged 87 = .ok (.ireturn, 1) := by decide +kernel
theorem dX12_judged_88 : decode cX12_judged 88 = .ok (.iinc 2 1, 3) := by decide +kernel
theorem dX12_judged_91 : decode cX12_judged 91 = .ok (.goto (-45), 3) := by decide +kernel
theorem dX12_judged_94 : decode cX12_judged 94 = .ok (.iconst 0, 1) := by decide +kernel
theorem dX12_judged_95 : decode cX12_judged 95 = .ok (.istore_n 2, 1) := by decide +kernel
theorem dX12_judged_96 : decode cX12_judged 96 = .ok (.iload_n 2, 1) := by decide +kernel
theorem dX12_judged_97 : decode cX12_judged 97 = .ok (.aload_n 0, 1) := by decide +kernel
theorem dX12_judged_98 : decode cX12_judged 98 = .ok (.getfield 15, 3) := by decide +kernel
theorem dX12_judged_101 : decode cX12_judged 101 = .ok (.iconst 0, 1) := by decide +kernel
theorem dX12_judged_102 : decode cX12_judged 102 = .ok (.iaload, 1) := by decide +kernel
theorem dX12_judged_103 : decode cX12_judged 103 = .ok (.if_icmp .ge 60, 3) := by decide +kernel
theorem dX12_judged_106 : decode cX12_judged 106 = .ok (.aload_n 0, 1) := by decide +kernel
theorem dX12_judged_107 : decode cX12_judged 107 = .ok (.iload_n 2, 1) := by decide +kernel
theorem dX12_judged_108 : decode cX12_judged 108 = .ok (.aload_n 0, 1) := by decide +kernel
theorem dX12_judged_109 : decode cX12_judged 109 = .ok (.getfield 15, 3) := by decide +kernel
theorem dX12_judged_112 : decode cX12_judged 112 = .ok (.iconst 4, 1) := by decide +kernel
theorem dX12_judged_113 : decode cX12_judged 113 = .ok (.iaload, 1) := by decide +kernel
theorem dX12_judged_114 : decode cX12_judged 114 = .ok (.invokevirtual 416, 3) := by decide +kernel
theorem dX12_judged_117 : decode cX12_judged 117 = .ok (.ifCond .eq 40, 3) := by decide +kernel
theorem dX12_judged_120 : decode cX12_judged 120 = .ok (.aload_n 0, 1) := by decide +kernel
theorem dX12_judged_121 : decode cX12_judged 121 = .ok (.getfield 21, 3) := by decide +kernel
theorem dX12_judged_124 : decode cX12_judged 124 = .ok (.aload_n 0, 1) := by decide +kernel
theorem dX12_judged_125 : decode cX12_judged 125 = .ok (.getfield 15, 3) := by decide +kernel
theorem dX12_judged_128 : decode cX12_judged 128 = .ok (.iconst 4, 1) := by decide +kernel
theorem dX12_judged_129 : decode cX12_judged 129 = .ok (.iaload, 1) := by decide +kernel
theorem dX12_judged_130 : decode cX12_judged 130 = .ok (.iaload, 1) := by decide +kernel
theorem dX12_judged_131 : decode cX12_judged 131 = .ok (.aload_n 0, 1) := by decide +kernel
theorem dX12_judged_132 : decode cX12_judged 132 = .ok (.iload_n 2, 1) := by decide +kernel
theorem dX12_judged_133 : decode cX12_judged 133 = .ok (.invokevirtual 389, 3) := by decide +kernel
theorem dX12_judged_136 : decode cX12_judged 136 = .ok (.isub, 1) := by decide +kernel
theorem dX12_judged_137 : decode cX12_judged 137 = .ok (.aload_n 0, 1) := by decide +kernel
theorem dX12_judged_138 : decode cX12_judged 138 = .ok (.getfield 15, 3) := by decide +kernel
theorem dX12_judged_141 : decode cX12_judged 141 = .ok (.iconst 5, 1) := by decide +kernel
theorem dX12_judged_142 : decode cX12_judged 142 = .ok (.iaload, 1) := by decide +kernel
theorem dX12_judged_143 : decode cX12_judged 143 = .ok (.if_icmp .ge 14, 3) := by decide +kernel
theorem dX12_judged_146 : decode cX12_judged 146 = .ok (.iload_n 1, 1) := by decide +kernel
theorem dX12_judged_147 : decode cX12_judged 147 = .ok (.ifCond .ne 8, 3) := by decide +kernel
theorem dX12_judged_150 : decode cX12_judged 150 = .ok (.bipush 8, 2) := by decide +kernel
theorem dX12_judged_152 : decode cX12_judged 152 = .ok (.goto 4, 3) := by decide +kernel
theorem dX12_judged_155 : decode cX12_judged 155 = .ok (.iload_n 2, 1) := by decide +kernel
theorem dX12_judged_156 : decode cX12_judged 156 = .ok (.ireturn, 1) := by decide +kernel
theorem dX12_judged_157 : decode cX12_judged 157 = .ok (.iinc 2 1, 3) := by decide +kernel
theorem dX12_judged_160 : decode cX12_judged 160 = .ok (.goto (-64), 3) := by decide +kernel
theorem dX12_judged_163 : decode cX12_judged 163 = .ok (.iload_n 1, 1) := by decide +kernel
theorem dX12_judged_164 : decode cX12_judged 164 = .ok (.ifCond .ne 7, 3) := by decide +kernel
theorem dX12_judged_167 : decode cX12_judged 167 = .ok (.iconst 0, 1) := by decide +kernel
theorem dX12_judged_168 : decode cX12_judged 168 = .ok (.goto 4, 3) := by decide +kernel
theorem dX12_judged_171 : decode cX12_judged 171 = .ok (.iconst (-1), 1) := by decide +kernel
theorem dX12_judged_172 : decode cX12_judged 172 = .ok (.ireturn, 1) := by decide +kernel
theorem dX12_isHour_0 : decode cX12_isHour 0 = .ok (.iload_n 0, 1) := by decide +kernel
theorem dX12_isHour_1 : decode cX12_isHour 1 = .ok (.ifCond .lt 13, 3) := by decide +kernel
theorem dX12_isHour_4 : decode cX12_isHour 4 = .ok (.iload_n 0, 1) := by decide +kernel
theorem dX12_isHour_5 : decode cX12_isHour 5 = .ok (.bipush 30, 2) := by decide +kernel
theorem dX12_isHour_7 : decode cX12_isHour 7 = .ok (.if_icmp .ge 7, 3) := by decide +kernel
theorem dX12_isHour_10 : decode cX12_isHour 10 = .ok (.iconst 1, 1) := by decide +kernel
theorem dX12_isHour_11 : decode cX12_isHour 11 = .ok (.goto 4, 3) := by decide +kernel
theorem dX12_isHour_14 : decode cX12_isHour 14 = .ok (.iconst 0, 1) := by decide +kernel
theorem dX12_isHour_15 : decode cX12_isHour 15 = .ok (.ireturn, 1) := by decide +kernel
theorem dX12_flow_0 : decode cX12_flow 0 = .ok (.aload_n 0, 1) := by decide +kernel
theorem dX12_flow_1 : decode cX12_flow 1 = .ok (.iconst 0, 1) := by decide +kernel
theorem dX12_flow_2 : decode cX12_flow 2 = .ok (.putfield 153, 3) := by decide +kernel
theorem dX12_flow_5 : decode cX12_flow 5 = .ok (.aload_n 0, 1) := by decide +kernel
theorem dX12_flow_6 : decode cX12_flow 6 = .ok (.iload_n 1, 1) := by decide +kernel
theorem dX12_flow_7 : decode cX12_flow 7 = .ok (.invokevirtual 450, 3) := by decide +kernel
theorem dX12_flow_10 : decode cX12_flow 10 = .ok (.ifCond .eq 18, 3) := by decide +kernel
theorem dX12_flow_13 : decode cX12_flow 13 = .ok (.aload_n 0, 1) := by decide +kernel
theorem dX12_flow_14 : decode cX12_flow 14 = .ok (.iload_n 2, 1) := by decide +kernel
theorem dX12_flow_15 : decode cX12_flow 15 = .ok (.invokevirtual 486, 3) := by decide +kernel
theorem dX12_flow_18 : decode cX12_flow 18 = .ok (.ifCond .eq 10, 3) := by decide +kernel
theorem dX12_flow_21 : decode cX12_flow 21 = .ok (.iload_n 3, 1) := by decide +kernel
theorem dX12_flow_22 : decode cX12_flow 22 = .ok (.invokestatic 489, 3) := by decide +kernel
theorem dX12_flow_25 : decode cX12_flow 25 = .ok (.ifCond .ne 7, 3) := by decide +kernel
theorem dX12_flow_28 : decode cX12_flow 28 = .ok (.ldc2_w 432, 3) := by decide +kernel
theorem dX12_flow_31 : decode cX12_flow 31 = .ok (.lreturn, 1) := by decide +kernel
theorem dX12_flow_32 : decode cX12_flow 32 = .ok (.aload_n 0, 1) := by decide +kernel
theorem dX12_flow_33 : decode cX12_flow 33 = .ok (.iconst 0, 1) := by decide +kernel
theorem dX12_flow_34 : decode cX12_flow 34 = .ok (.invokevirtual 457, 3) := by decide +kernel
theorem dX12_flow_37 : decode cX12_flow 37 = .ok (.aload_n 0, 1) := by decide +kernel
theorem dX12_flow_38 : decode cX12_flow 38 = .ok (.getfield 95, 3) := by decide +kernel
theorem dX12_flow_41 : decode cX12_flow 41 = .ok (.iload_n 1, 1) := by decide +kernel
theorem dX12_flow_42 : decode cX12_flow 42 = .ok (.iload_n 2, 1) := by decide +kernel
theorem dX12_flow_43 : decode cX12_flow 43 = .ok (.iload_n 3, 1) := by decide +kernel
theorem dX12_flow_44 : decode cX12_flow 44 = .ok (.invokestatic 425, 3) := by decide +kernel
theorem dX12_flow_47 : decode cX12_flow 47 = .ok (.laload, 1) := by decide +kernel
theorem dX12_flow_48 : decode cX12_flow 48 = .ok (.lreturn, 1) := by decide +kernel
theorem dX12_flooded_0 : decode cX12_flooded 0 = .ok (.aload_n 0, 1) := by decide +kernel
theorem dX12_flooded_1 : decode cX12_flooded 1 = .ok (.iconst 0, 1) := by decide +kernel
theorem dX12_flooded_2 : decode cX12_flooded 2 = .ok (.putfield 153, 3) := by decide +kernel
theorem dX12_flooded_5 : decode cX12_flooded 5 = .ok (.aload_n 0, 1) := by decide +kernel
theorem dX12_flooded_6 : decode cX12_flooded 6 = .ok (.iload_n 1, 1) := by decide +kernel
theorem dX12_flooded_7 : decode cX12_flooded 7 = .ok (.invokevirtual 450, 3) := by decide +kernel
theorem dX12_flooded_10 : decode cX12_flooded 10 = .ok (.ifCond .eq 18, 3) := by decide +kernel
theorem dX12_flooded_13 : decode cX12_flooded 13 = .ok (.aload_n 0, 1) := by decide +kernel
theorem dX12_flooded_14 : decode cX12_flooded 14 = .ok (.iload_n 2, 1) := by decide +kernel
theorem dX12_flooded_15 : decode cX12_flooded 15 = .ok (.invokevirtual 486, 3) := by decide +kernel
theorem dX12_flooded_18 : decode cX12_flooded 18 = .ok (.ifCond .eq 10, 3) := by decide +kernel
theorem dX12_flooded_21 : decode cX12_flooded 21 = .ok (.iload_n 3, 1) := by decide +kernel
theorem dX12_flooded_22 : decode cX12_flooded 22 = .ok (.invokestatic 489, 3) := by decide +kernel
theorem dX12_flooded_25 : decode cX12_flooded 25 = .ok (.ifCond .ne 7, 3) := by decide +kernel
theorem dX12_flooded_28 : decode cX12_flooded 28 = .ok (.ldc2_w 432, 3) := by decide +kernel
theorem dX12_flooded_31 : decode cX12_flooded 31 = .ok (.lreturn, 1) := by decide +kernel
theorem dX12_flooded_32 : decode cX12_flooded 32 = .ok (.aload_n 0, 1) := by decide +kernel
theorem dX12_flooded_33 : decode cX12_flooded 33 = .ok (.iconst 1, 1) := by decide +kernel
theorem dX12_flooded_34 : decode cX12_flooded 34 = .ok (.invokevirtual 457, 3) := by decide +kernel
theorem dX12_flooded_37 : decode cX12_flooded 37 = .ok (.aload_n 0, 1) := by decide +kernel
theorem dX12_flooded_38 : decode cX12_flooded 38 = .ok (.getfield 98, 3) := by decide +kernel
theorem dX12_flooded_41 : decode cX12_flooded 41 = .ok (.iload_n 1, 1) := by decide +kernel
theorem dX12_flooded_42 : decode cX12_flooded 42 = .ok (.iload_n 2, 1) := by decide +kernel
theorem dX12_flooded_43 : decode cX12_flooded 43 = .ok (.iload_n 3, 1) := by decide +kernel
theorem dX12_flooded_44 : decode cX12_flooded 44 = .ok (.invokestatic 425, 3) := by decide +kernel
theorem dX12_flooded_47 : decode cX12_flooded 47 = .ok (.laload, 1) := by decide +kernel
theorem dX12_flooded_48 : decode cX12_flooded 48 = .ok (.lreturn, 1) := by decide +kernel
theorem dX12_floods_0 : decode cX12_floods 0 = .ok (.aload_n 0, 1) := by decide +kernel
theorem dX12_floods_1 : decode cX12_floods 1 = .ok (.iconst 0, 1) := by decide +kernel
theorem dX12_floods_2 : decode cX12_floods 2 = .ok (.putfield 153, 3) := by decide +kernel
theorem dX12_floods_5 : decode cX12_floods 5 = .ok (.aload_n 0, 1) := by decide +kernel
theorem dX12_floods_6 : decode cX12_floods 6 = .ok (.iload_n 1, 1) := by decide +kernel
theorem dX12_floods_7 : decode cX12_floods 7 = .ok (.invokevirtual 486, 3) := by decide +kernel
theorem dX12_floods_10 : decode cX12_floods 10 = .ok (.ifCond .ne 7, 3) := by decide +kernel
theorem dX12_floods_13 : decode cX12_floods 13 = .ok (.ldc2_w 432, 3) := by decide +kernel
theorem dX12_floods_16 : decode cX12_floods 16 = .ok (.lreturn, 1) := by decide +kernel
theorem dX12_floods_17 : decode cX12_floods 17 = .ok (.aload_n 0, 1) := by decide +kernel
theorem dX12_floods_18 : decode cX12_floods 18 = .ok (.iconst 0, 1) := by decide +kernel
theorem dX12_floods_19 : decode cX12_floods 19 = .ok (.putfield 371, 3) := by decide +kernel
theorem dX12_floods_22 : decode cX12_floods 22 = .ok (.aload_n 0, 1) := by decide +kernel
theorem dX12_floods_23 : decode cX12_floods 23 = .ok (.iconst 1, 1) := by decide +kernel
theorem dX12_floods_24 : decode cX12_floods 24 = .ok (.invokevirtual 457, 3) := by decide +kernel
theorem dX12_floods_27 : decode cX12_floods 27 = .ok (.lconst 0, 1) := by decide +kernel
theorem dX12_floods_28 : decode cX12_floods 28 = .ok (.lstore_n 2, 1) := by decide +kernel
theorem dX12_floods_29 : decode cX12_floods 29 = .ok (.iconst 0, 1) := by decide +kernel
theorem dX12_floods_30 : decode cX12_floods 30 = .ok (.istore 4, 2) := by decide +kernel
theorem dX12_floods_32 : decode cX12_floods 32 = .ok (.iload 4, 2) := by decide +kernel
theorem dX12_floods_34 : decode cX12_floods 34 = .ok (.aload_n 0, 1) := by decide +kernel
theorem dX12_floods_35 : decode cX12_floods 35 = .ok (.getfield 15, 3) := by decide +kernel
theorem dX12_floods_38 : decode cX12_floods 38 = .ok (.iconst 0, 1) := by decide +kernel
theorem dX12_floods_39 : decode cX12_floods 39 = .ok (.iaload, 1) := by decide +kernel
theorem dX12_floods_40 : decode cX12_floods 40 = .ok (.if_icmp .ge 41, 3) := by decide +kernel
theorem dX12_floods_43 : decode cX12_floods 43 = .ok (.iconst 0, 1) := by decide +kernel
theorem dX12_floods_44 : decode cX12_floods 44 = .ok (.istore 5, 2) := by decide +kernel
theorem dX12_floods_46 : decode cX12_floods 46 = .ok (.iload 5, 2) := by decide +kernel
theorem dX12_floods_48 : decode cX12_floods 48 = .ok (.bipush 30, 2) := by decide +kernel
theorem dX12_floods_50 : decode cX12_floods 50 = .ok (.if_icmp .ge 25, 3) := by decide +kernel
theorem dX12_floods_53 : decode cX12_floods 53 = .ok (.lload_n 2, 1) := by decide +kernel
theorem dX12_floods_54 : decode cX12_floods 54 = .ok (.aload_n 0, 1) := by decide +kernel
theorem dX12_floods_55 : decode cX12_floods 55 = .ok (.getfield 98, 3) := by decide +kernel
theorem dX12_floods_58 : decode cX12_floods 58 = .ok (.iload 4, 2) := by decide +kernel
theorem dX12_floods_60 : decode cX12_floods 60 = .ok (.iload_n 1, 1) := by decide +kernel
theorem dX12_floods_61 : decode cX12_floods 61 = .ok (.iload 5, 2) := by decide +kernel
theorem dX12_floods_63 : decode cX12_floods 63 = .ok (.invokestatic 425, 3) := by decide +kernel
theorem dX12_floods_66 : decode cX12_floods 66 = .ok (.laload, 1) := by decide +kernel
theorem dX12_floods_67 : decode cX12_floods 67 = .ok (.ladd, 1) := by decide +kernel
theorem dX12_floods_68 : decode cX12_floods 68 = .ok (.lstore_n 2, 1) := by decide +kernel
theorem dX12_floods_69 : decode cX12_floods 69 = .ok (.iinc 5 1, 3) := by decide +kernel
theorem dX12_floods_72 : decode cX12_floods 72 = .ok (.goto (-26), 3) := by decide +kernel
theorem dX12_floods_75 : decode cX12_floods 75 = .ok (.iinc 4 1, 3) := by decide +kernel
theorem dX12_floods_78 : decode cX12_floods 78 = .ok (.goto (-46), 3) := by decide +kernel
theorem dX12_floods_81 : decode cX12_floods 81 = .ok (.lload_n 2, 1) := by decide +kernel
theorem dX12_floods_82 : decode cX12_floods 82 = .ok (.lreturn, 1) := by decide +kernel
theorem dX12_worst_0 : decode cX12_worst 0 = .ok (.aload_n 0, 1) := by decide +kernel
theorem dX12_worst_1 : decode cX12_worst 1 = .ok (.iconst 0, 1) := by decide +kernel
theorem dX12_worst_2 : decode cX12_worst 2 = .ok (.putfield 153, 3) := by decide +kernel
theorem dX12_worst_5 : decode cX12_worst 5 = .ok (.aload_n 0, 1) := by decide +kernel
theorem dX12_worst_6 : decode cX12_worst 6 = .ok (.iload_n 1, 1) := by decide +kernel
theorem dX12_worst_7 : decode cX12_worst 7 = .ok (.invokevirtual 450, 3) := by decide +kernel
theorem dX12_worst_10 : decode cX12_worst 10 = .ok (.ifCond .eq 21, 3) := by decide +kernel
theorem dX12_worst_13 : decode cX12_worst 13 = .ok (.aload_n 0, 1) := by decide +kernel
theorem dX12_worst_14 : decode cX12_worst 14 = .ok (.getfield 15, 3) := by decide +kernel
theorem dX12_worst_17 : decode cX12_worst 17 = .ok (.iconst 3, 1) := by decide +kernel
theorem dX12_worst_18 : decode cX12_worst 18 = .ok (.iaload, 1) := by decide +kernel
theorem dX12_worst_19 : decode cX12_worst 19 = .ok (.ifCond .eq 12, 3) := by decide +kernel
theorem dX12_worst_22 : decode cX12_worst 22 = .ok (.iload_n 2, 1) := by decide +kernel
theorem dX12_worst_23 : decode cX12_worst 23 = .ok (.ifCond .lt 8, 3) := by decide +kernel
theorem dX12_worst_26 : decode cX12_worst 26 = .ok (.iload_n 2, 1) := by decide +kernel
theorem dX12_worst_27 : decode cX12_worst 27 = .ok (.iconst 2, 1) := by decide +kernel
theorem dX12_worst_28 : decode cX12_worst 28 = .ok (.if_icmp .le 7, 3) := by decide +kernel
theorem dX12_worst_31 : decode cX12_worst 31 = .ok (.ldc2_w 432, 3) := by decide +kernel
theorem dX12_worst_34 : decode cX12_worst 34 = .ok (.lreturn, 1) := by decide +kernel
theorem dX12_worst_35 : decode cX12_worst 35 = .ok (.aload_n 0, 1) := by decide +kernel
theorem dX12_worst_36 : decode cX12_worst 36 = .ok (.iconst 0, 1) := by decide +kernel
theorem dX12_worst_37 : decode cX12_worst 37 = .ok (.invokevirtual 457, 3) := by decide +kernel
theorem dX12_worst_40 : decode cX12_worst 40 = .ok (.aload_n 0, 1) := by decide +kernel
theorem dX12_worst_41 : decode cX12_worst 41 = .ok (.iload_n 1, 1) := by decide +kernel
theorem dX12_worst_42 : decode cX12_worst 42 = .ok (.invokevirtual 467, 3) := by decide +kernel
theorem dX12_worst_45 : decode cX12_worst 45 = .ok (.lstore_n 3, 1) := by decide +kernel
theorem dX12_worst_46 : decode cX12_worst 46 = .ok (.iload_n 2, 1) := by decide +kernel
theorem dX12_worst_47 : decode cX12_worst 47 = .ok (.ifCond .ne 7, 3) := by decide +kernel
