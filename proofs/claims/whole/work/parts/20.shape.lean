/-! THE CELLS behind both constructors: what each is, to which others it refers -/
def S0 : List ah_Sh := [.inr 11, .inl (.byte, 700), .inr 9, .inl (.array .int, 7), .inl (.int, 4), .inl (.int, 4), .inl (.int, 4), .inl (.int, 4), .inl (.int, 4), .inl (.int, 4), .inl (.int, 4), .inl (.array .int, 10), .inl (.int, 5), .inl (.int, 5), .inl (.int, 5), .inl (.int, 5), .inl (.int, 5), .inl (.int, 5), .inl (.int, 5), .inl (.int, 5), .inl (.int, 5), .inl (.int, 5), .inl (.array .int, 4), .inl (.int, 2), .inl (.int, 2), .inl (.int, 2), .inl (.int, 2), .inl (.int, 4), .inl (.array .int, 4), .inl (.int, 6), .inl (.int, 6), .inl (.int, 6), .inl (.int, 6), .inl (.int, 2), .inl (.int, 2), .inr 4, .inl (.int, 64), .inl (.int, 64), .inl (.int, 3), .inl (.int, 3), .inl (.long, 6), .inl (.long, 64), .inr 9, .inl (.array .int, 7), .inl (.int, 4), .inl (.int, 4), .inl (.int, 4), .inl (.int, 4), .inl (.int, 4), .inl (.int, 4), .inl (.int, 4), .inl (.array .int, 10), .inl (.int, 5), .inl (.int, 5), .inl (.int, 5), .inl (.int, 5), .inl (.int, 5), .inl (.int, 5), .inl (.int, 5), .inl (.int, 5), .inl (.int, 5), .inl (.int, 5), .inl (.array .int, 4), .inl (.int, 2), .inl (.int, 2), .inl (.int, 2), .inl (.int, 2), .inl (.int, 4), .inl (.array .int, 4), .inl (.int, 6), .inl (.int, 6), .inl (.int, 6), .inl (.int, 6), .inl (.int, 2), .inl (.int, 2), .inr 4, .inl (.int, 64), .inl (.int, 64), .inl (.int, 3), .inl (.int, 3), .inl (.long, 6), .inl (.long, 64), .inr 7, .inr 8, .inl (.int, 24), .inl (.int, 701), .inl (.int, 701), .inl (.int, 701), .inr 2, .inl (.int, 72), .inr 5, .inl (.int, 7), .inl (.int, 7), .inl (.int, 7), .inl (.int, 7), .inl (.array .int, 20), .inl (.int, 28), .inl (.int, 28), .inl (.int, 28), .inl (.int, 28), .inl (.int, 28), .inl (.int, 28), .inl (.int, 28), .inl (.int, 28), .inl (.int, 28), .inl (.int, 28), .inl (.int, 28), .inl (.int, 28), .inl (.int, 28), .inl (.int, 28), .inl (.int, 28), .inl (.int, 28), .inl (.int, 28), .inl (.int, 28), .inl (.int, 28), .inl (.int, 28), .inl (.int, 28), .inr 3, .inr 1, .inl (.array .long, 7), .inl (.long, 120), .inl (.long, 120), .inl (.long, 120), .inl (.long, 120), .inl (.long, 120), .inl (.long, 120), .inl (.long, 120), .inl (.array .long, 7), .inl (.long, 120), .inl (.long, 120), .inl (.long, 120), .inl (.long, 120), .inl (.long, 120), .inl (.long, 120), .inl (.long, 120), .inl (.long, 7), .inl (.int, 7), .inl (.int, 7), .inl (.int, 7), .inr 1, .inl (.array .long, 7), .inl (.long, 120), .inl (.long, 120), .inl (.long, 120), .inl (.long, 120), .inl (.long, 120), .inl (.long, 120), .inl (.long, 120), .inl (.array .long, 7), .inl (.long, 120), .inl (.long, 120), .inl (.long, 120), .inl (.long, 120), .inl (.long, 120), .inl (.long, 120), .inl (.long, 120), .inl (.long, 7), .inl (.int, 7), .inl (.int, 7), .inl (.int, 7), .inr 10, .inl (.long, 1024), .inl (.long, 1024), .inr 0, .inl (.int, 7), .inl (.int, 7), .inl (.int, 7), .inl (.int, 7), .inl (.int, 7), .inl (.array .long, 7), .inl (.long, 104), .inl (.long, 104), .inl (.long, 104), .inl (.long, 104), .inl (.long, 104), .inl (.long, 104), .inl (.long, 104), .inl (.array .long, 7), .inl (.long, 104), .inl (.long, 104), .inl (.long, 104), .inl (.long, 104), .inl (.long, 104), .inl (.long, 104), .inl (.long, 104), .inl (.long, 104), .inl (.long, 104), .inl (.long, 13), .inl (.array .long, 7), .inl (.long, 52), .inl (.long, 52), .inl (.long, 52), .inl (.long, 52), .inl (.long, 52), .inl (.long, 52), .inl (.long, 52), .inl (.array .long, 4), .inl (.long, 100), .inl (.long, 100), .inl (.long, 100), .inl (.long, 100), .inr 1, .inl (.array .long, 7), .inl (.long, 120), .inl (.long, 120), .inl (.long, 120), .inl (.long, 120), .inl (.long, 120), .inl (.long, 120), .inl (.long, 120), .inl (.array .long, 7), .inl (.long, 120), .inl (.long, 120), .inl (.long, 120), .inl (.long, 120), .inl (.long, 120), .inl (.long, 120), .inl (.long, 120), .inl (.long, 7), .inl (.int, 7), .inl (.int, 7), .inl (.int, 7), .inr 6, .inl (.int, 7), .inl (.long, 128), .inr 12, .inl (.int, 700), .inl (.int, 24), .inl (.int, 14), .inl (.int, 14), .inl (.int, 14), .inl (.int, 14), .inl (.int, 20), .inl (.int, 20), .inl (.int, 20), .inl (.int, 20), .inl (.int, 20), .inl (.int, 8), .inl (.int, 8), .inl (.int, 8), .inl (.int, 8), .inl (.int, 48), .inl (.int, 6), .inl (.int, 6), .inl (.int, 128), .inl (.int, 128), .inl (.long, 6), .inl (.long, 64), .inl (.int, 14), .inl (.int, 14), .inl (.int, 14), .inl (.int, 14), .inl (.long, 840), .inl (.long, 840), .inl (.boolean, 7), .inl (.int, 140), .inl (.int, 140), .inl (.int, 140), .inl (.int, 140), .inl (.int, 7), .inl (.int, 7), .inl (.int, 7), .inl (.int, 7), .inl (.int, 7), .inl (.long, 364), .inl (.long, 7), .inl (.int, 7), .inl (.int, 7), .inl (.int, 7), .inl (.int, 7), .inl (.int, 7), .inl (.long, 1)]
theorem S0_0 : S0[0]? = some (.inr 11) := by decide +kernel
theorem S0_1 : S0[1]? = some (.inl (.byte, 700)) := by decide +kernel
theorem S0_2 : S0[2]? = some (.inr 9) := by decide +kernel
theorem S0_3 : S0[3]? = some (.inl (.array .int, 7)) := by decide +kernel
theorem S0_4 : S0[4]? = some (.inl (.int, 4)) := by decide +kernel
theorem S0_5 : S0[5]? = some (.inl (.int, 4)) := by decide +kernel
theorem S0_6 : S0[6]? = some (.inl (.int, 4)) := by decide +kernel
theorem S0_7 : S0[7]? = some (.inl (.int, 4)) := by decide +kernel
theorem S0_8 : S0[8]? = some (.inl (.int, 4)) := by decide +kernel
theorem S0_9 : S0[9]? = some (.inl (.int, 4)) := by decide +kernel
theorem S0_10 : S0[10]? = some (.inl (.int, 4)) := by decide +kernel
theorem S0_11 : S0[11]? = some (.inl (.array .int, 10)) := by decide +kernel
theorem S0_12 : S0[12]? = some (.inl (.int, 5)) := by decide +kernel
theorem S0_13 : S0[13]? = some (.inl (.int, 5)) := by decide +kernel
theorem S0_14 : S0[14]? = some (.inl (.int, 5)) := by decide +kernel
theorem S0_15 : S0[15]? = some (.inl (.int, 5)) := by decide +kernel
theorem S0_16 : S0[16]? = some (.inl (.int, 5)) := by decide +kernel
theorem S0_17 : S0[17]? = some (.inl (.int, 5)) := by decide +kernel
theorem S0_18 : S0[18]? = some (.inl (.int, 5)) := by decide +kernel
theorem S0_19 : S0[19]? = some (.inl (.int, 5)) := by decide +kernel
theorem S0_20 : S0[20]? = some (.inl (.int, 5)) := by decide +kernel
theorem S0_21 : S0[21]? = some (.inl (.int, 5)) := by decide +kernel
theorem S0_22 : S0[22]? = some (.inl (.array .int, 4)) := by decide +kernel
theorem S0_23 : S0[23]? = some (.inl (.int, 2)) := by decide +kernel
theorem S0_24 : S0[24]? = some (.inl (.int, 2)) := by decide +kernel
theorem S0_25 : S0[25]? = some (.inl (.int, 2)) := by decide +kernel
theorem S0_26 : S0[26]? = some (.inl (.int, 2)) := by decide +kernel
theorem S0_27 : S0[27]? = some (.inl (.int, 4)) := by decide +kernel
theorem S0_28 : S0[28]? = some (.inl (.array .int, 4)) := by decide +kernel
theorem S0_29 : S0[29]? = some (.inl (.int, 6)) := by decide +kernel
theorem S0_30 : S0[30]? = some (.inl (.int, 6)) := by decide +kernel
theorem S0_31 : S0[31]? = some (.inl (.int, 6)) := by decide +kernel
theorem S0_32 : S0[32]? = some (.inl (.int, 6)) := by decide +kernel
theorem S0_33 : S0[33]? = some (.inl (.int, 2)) := by decide +kernel
theorem S0_34 : S0[34]? = some (.inl (.int, 2)) := by decide +kernel
theorem S0_35 : S0[35]? = some (.inr 4) := by decide +kernel
theorem S0_36 : S0[36]? = some (.inl (.int, 64)) := by decide +kernel
theorem S0_37 : S0[37]? = some (.inl (.int, 64)) := by decide +kernel
theorem S0_38 : S0[38]? = some (.inl (.int, 3)) := by decide +kernel
theorem S0_39 : S0[39]? = some (.inl (.int, 3)) := by decide +kernel
theorem S0_40 : S0[40]? = some (.inl (.long, 6)) := by decide +kernel
theorem S0_41 : S0[41]? = some (.inl (.long, 64)) := by decide +kernel
theorem S0_42 : S0[42]? = some (.inr 9) := by decide +kernel
theorem S0_43 : S0[43]? = some (.inl (.array .int, 7)) := by decide +kernel
theorem S0_44 : S0[44]? = some (.inl (.int, 4)) := by decide +kernel
theorem S0_45 : S0[45]? = some (.inl (.int, 4)) := by decide +kernel
theorem S0_46 : S0[46]? = some (.inl (.int, 4)) := by decide +kernel
theorem S0_47 : S0[47]? = some (.inl (.int, 4)) := by decide +kernel
theorem S0_48 : S0[48]? = some (.inl (.int, 4)) := by decide +kernel
theorem S0_49 : S0[49]? = some (.inl (.int, 4)) := by decide +kernel
theorem S0_50 : S0[50]? = some (.inl (.int, 4)) := by decide +kernel
theorem S0_51 : S0[51]? = some (.inl (.array .int, 10)) := by decide +kernel
theorem S0_52 : S0[52]? = some (.inl (.int, 5)) := by decide +kernel
theorem S0_53 : S0[53]? = some (.inl (.int, 5)) := by decide +kernel
theorem S0_54 : S0[54]? = some (.inl (.int, 5)) := by decide +kernel
theorem S0_55 : S0[55]? = some (.inl (.int, 5)) := by decide +kernel
theorem S0_56 : S0[56]? = some (.inl (.int, 5)) := by decide +kernel
theorem S0_57 : S0[57]? = some (.inl (.int, 5)) := by decide +kernel
theorem S0_58 : S0[58]? = some (.inl (.int, 5)) := by decide +kernel
theorem S0_59 : S0[59]? = some (.inl (.int, 5)) := by decide +kernel
theorem S0_60 : S0[60]? = some (.inl (.int, 5)) := by decide +kernel
theorem S0_61 : S0[61]? = some (.inl (.int, 5)) := by decide +kernel
theorem S0_62 : S0[62]? = some (.inl (.array .int, 4)) := by decide +kernel
theorem S0_63 : S0[63]? = some (.inl (.int, 2)) := by decide +kernel
theorem S0_64 : S0[64]? = some (.inl (.int, 2)) := by decide +kernel
theorem S0_65 : S0[65]? = some (.inl (.int, 2)) := by decide +kernel
theorem S0_66 : S0[66]? = some (.inl (.int, 2)) := by decide +kernel
theorem S0_67 : S0[67]? = some (.inl (.int, 4)) := by decide +kernel
theorem S0_68 : S0[68]? = some (.inl (.array .int, 4)) := by decide +kernel
theorem S0_69 : S0[69]? = some (.inl (.int, 6)) := by decide +kernel
theorem S0_70 : S0[70]? = some (.inl (.int, 6)) := by decide +kernel
theorem S0_71 : S0[71]? = some (.inl (.int, 6)) := by decide +kernel
theorem S0_72 : S0[72]? = some (.inl (.int, 6)) := by decide +kernel
theorem S0_73 : S0[73]? = some (.inl (.int, 2)) := by decide +kernel
theorem S0_74 : S0[74]? = some (.inl (.int, 2)) := by decide +kernel
theorem S0_75 : S0[75]? = some (.inr 4) := by decide +kernel
theorem S0_76 : S0[76]? = some (.inl (.int, 64)) := by decide +kernel
theorem S0_77 : S0[77]? = some (.inl (.int, 64)) := by decide +kernel
theorem S0_78 : S0[78]? = some (.inl (.int, 3)) := by decide +kernel
theorem S0_79 : S0[79]? = some (.inl (.int, 3)) := by decide +kernel
theorem S0_80 : S0[80]? = some (.inl (.long, 6)) := by decide +kernel
theorem S0_81 : S0[81]? = some (.inl (.long, 64)) := by decide +kernel
theorem S0_82 : S0[82]? = some (.inr 7) := by decide +kernel
theorem S0_83 : S0[83]? = some (.inr 8) := by decide +kernel
theorem S0_84 : S0[84]? = some (.inl (.int, 24)) := by decide +kernel
theorem S0_85 : S0[85]? = some (.inl (.int, 701)) := by decide +kernel
theorem S0_86 : S0[86]? = some (.inl (.int, 701)) := by decide +kernel
theorem S0_87 : S0[87]? = some (.inl (.int, 701)) := by decide +kernel
theorem S0_88 : S0[88]? = some (.inr 2) := by decide +kernel
theorem S0_89 : S0[89]? = some (.inl (.int, 72)) := by decide +kernel
theorem S0_90 : S0[90]? = some (.inr 5) := by decide +kernel
theorem S0_91 : S0[91]? = some (.inl (.int, 7)) := by decide +kernel
theorem S0_92 : S0[92]? = some (.inl (.int, 7)) := by decide +kernel
theorem S0_93 : S0[93]? = some (.inl (.int, 7)) := by decide +kernel
theorem S0_94 : S0[94]? = some (.inl (.int, 7)) := by decide +kernel
theorem S0_95 : S0[95]? = some (.inl (.array .int, 20)) := by decide +kernel
theorem S0_96 : S0[96]? = some (.inl (.int, 28)) := by decide +kernel
theorem S0_97 : S0[97]? = some (.inl (.int, 28)) := by decide +kernel
theorem S0_98 : S0[98]? = some (.inl (.int, 28)) := by decide +kernel
theorem S0_99 : S0[99]? = some (.inl (.int, 28)) := by decide +kernel
theorem S0_100 : S0[100]? = some (.inl (.int, 28)) := by decide +kernel
theorem S0_101 : S0[101]? = some (.inl (.int, 28)) := by decide +kernel
theorem S0_102 : S0[102]? = some (.inl (.int, 28)) := by decide +kernel
theorem S0_103 : S0[103]? = some (.inl (.int, 28)) := by decide +kernel
theorem S0_104 : S0[104]? = some (.inl (.int, 28)) := by decide +kernel
theorem S0_105 : S0[105]? = some (.inl (.int, 28)) := by decide +kernel
theorem S0_106 : S0[106]? = some (.inl (.int, 28)) := by decide +kernel
theorem S0_107 : S0[107]? = some (.inl (.int, 28)) := by decide +kernel
theorem S0_108 : S0[108]? = some (.inl (.int, 28)) := by decide +kernel
theorem S0_109 : S0[109]? = some (.inl (.int, 28)) := by decide +kernel
theorem S0_110 : S0[110]? = some (.inl (.int, 28)) := by decide +kernel
theorem S0_111 : S0[111]? = some (.inl (.int, 28)) := by decide +kernel
theorem S0_112 : S0[112]? = some (.inl (.int, 28)) := by decide +kernel
theorem S0_113 : S0[113]? = some (.inl (.int, 28)) := by decide +kernel
theorem S0_114 : S0[114]? = some (.inl (.int, 28)) := by decide +kernel
theorem S0_115 : S0[115]? = some (.inl (.int, 28)) := by decide +kernel
theorem S0_116 : S0[116]? = some (.inl (.int, 28)) := by decide +kernel
theorem S0_117 : S0[117]? = some (.inr 3) := by decide +kernel
theorem S0_118 : S0[118]? = some (.inr 1) := by decide +kernel
theorem S0_119 : S0[119]? = some (.inl (.array .long, 7)) := by decide +kernel
theorem S0_120 : S0[120]? = some (.inl (.long, 120)) := by decide +kernel
theorem S0_121 : S0[121]? = some (.inl (.long, 120)) := by decide +kernel
theorem S0_122 : S0[122]? = some (.inl (.long, 120)) := by decide +kernel
theorem S0_123 : S0[123]? = some (.inl (.long, 120)) := by decide +kernel
theorem S0_124 : S0[124]? = some (.inl (.long, 120)) := by decide +kernel
theorem S0_125 : S0[125]? = some (.inl (.long, 120)) := by decide +kernel
theorem S0_126 : S0[126]? = some (.inl (.long, 120)) := by decide +kernel
theorem S0_127 : S0[127]? = some (.inl (.array .long, 7)) := by decide +kernel
theorem S0_128 : S0[128]? = some (.inl (.long, 120)) := by decide +kernel
theorem S0_129 : S0[129]? = some (.inl (.long, 120)) := by decide +kernel
theorem S0_130 : S0[130]? = some (.inl (.long, 120)) := by decide +kernel
theorem S0_131 : S0[131]? = some (.inl (.long, 120)) := by decide +kernel
theorem S0_132 : S0[132]? = some (.inl (.long, 120)) := by decide +kernel
theorem S0_133 : S0[133]? = some (.inl (.long, 120)) := by decide +kernel
theorem S0_134 : S0[134]? = some (.inl (.long, 120)) := by decide +kernel
theorem S0_135 : S0[135]? = some (.inl (.long, 7)) := by decide +kernel
theorem S0_136 : S0[136]? = some (.inl (.int, 7)) := by decide +kernel
theorem S0_137 : S0[137]? = some (.inl (.int, 7)) := by decide +kernel
theorem S0_138 : S0[138]? = some (.inl (.int, 7)) := by decide +kernel
theorem S0_139 : S0[139]? = some (.inr 1) := by decide +kernel
theorem S0_140 : S0[140]? = some (.inl (.array .long, 7)) := by decide +kernel
theorem S0_141 : S0[141]? = some (.inl (.long, 120)) := by decide +kernel
theorem S0_142 : S0[142]? = some (.inl (.long, 120)) := by decide +kernel
theorem S0_143 : S0[143]? = some (.inl (.long, 120)) := by decide +kernel
theorem S0_144 : S0[144]? = some (.inl (.long, 120)) := by decide +kernel
theorem S0_145 : S0[145]? = some (.inl (.long, 120)) := by decide +kernel
theorem S0_146 : S0[146]? = some (.inl (.long, 120)) := by decide +kernel
theorem S0_147 : S0[147]? = some (.inl (.long, 120)) := by decide +kernel
theorem S0_148 : S0[148]? = some (.inl (.array .long, 7)) := by decide +kernel
theorem S0_149 : S0[149]? = some (.inl (.long, 120)) := by decide +kernel
theorem S0_150 : S0[150]? = some (.inl (.long, 120)) := by decide +kernel
theorem S0_151 : S0[151]? = some (.inl (.long, 120)) := by decide +kernel
theorem S0_152 : S0[152]? = some (.inl (.long, 120)) := by decide +kernel
theorem S0_153 : S0[153]? = some (.inl (.long, 120)) := by decide +kernel
theorem S0_154 : S0[154]? = some (.inl (.long, 120)) := by decide +kernel
theorem S0_155 : S0[155]? = some (.inl (.long, 120)) := by decide +kernel
theorem S0_156 : S0[156]? = some (.inl (.long, 7)) := by decide +kernel
theorem S0_157 : S0[157]? = some (.inl (.int, 7)) := by decide +kernel
theorem S0_158 : S0[158]? = some (.inl (.int, 7)) := by decide +kernel
theorem S0_159 : S0[159]? = some (.inl (.int, 7)) := by decide +kernel
theorem S0_160 : S0[160]? = some (.inr 10) := by decide +kernel
theorem S0_161 : S0[161]? = some (.inl (.long, 1024)) := by decide +kernel
theorem S0_162 : S0[162]? = some (.inl (.long, 1024)) := by decide +kernel
theorem S0_163 : S0[163]? = some (.inr 0) := by decide +kernel
theorem S0_164 : S0[164]? = some (.inl (.int, 7)) := by decide +kernel
theorem S0_165 : S0[165]? = some (.inl (.int, 7)) := by decide +kernel
theorem S0_166 : S0[166]? = some (.inl (.int, 7)) := by decide +kernel
theorem S0_167 : S0[167]? = some (.inl (.int, 7)) := by decide +kernel
theorem S0_168 : S0[168]? = some (.inl (.int, 7)) := by decide +kernel
theorem S0_169 : S0[169]? = some (.inl (.array .long, 7)) := by decide +kernel
theorem S0_170 : S0[170]? = some (.inl (.long, 104)) := by decide +kernel
theorem S0_171 : S0[171]? = some (.inl (.long, 104)) := by decide +kernel
theorem S0_172 : S0[172]? = some (.inl (.long, 104)) := by decide +kernel
theorem S0_173 : S0[173]? = some (.inl (.long, 104)) := by decide +kernel
theorem S0_174 : S0[174]? = some (.inl (.long, 104)) := by decide +kernel
theorem S0_175 : S0[175]? = some (.inl (.long, 104)) := by decide +kernel
theorem S0_176 : S0[176]? = some (.inl (.long, 104)) := by decide +kernel
theorem S0_177 : S0[177]? = some (.inl (.array .long, 7)) := by decide +kernel
theorem S0_178 : S0[178]? = some (.inl (.long, 104)) := by decide +kernel
theorem S0_179 : S0[179]? = some (.inl (.long, 104)) := by decide +kernel
theorem S0_180 : S0[180]? = some (.inl (.long, 104)) := by decide +kernel
theorem S0_181 : S0[181]? = some (.inl (.long, 104)) := by decide +kernel
theorem S0_182 : S0[182]? = some (.inl (.long, 104)) := by decide +kernel
theorem S0_183 : S0[183]? = some (.inl (.long, 104)) := by decide +kernel
theorem S0_184 : S0[184]? = some (.inl (.long, 104)) := by decide +kernel
theorem S0_185 : S0[185]? = some (.inl (.long, 104)) := by decide +kernel
theorem S0_186 : S0[186]? = some (.inl (.long, 104)) := by decide +kernel
theorem S0_187 : S0[187]? = some (.inl (.long, 13)) := by decide +kernel
theorem S0_188 : S0[188]? = some (.inl (.array .long, 7)) := by decide +kernel
theorem S0_189 : S0[189]? = some (.inl (.long, 52)) := by decide +kernel
theorem S0_190 : S0[190]? = some (.inl (.long, 52)) := by decide +kernel
theorem S0_191 : S0[191]? = some (.inl (.long, 52)) := by decide +kernel
theorem S0_192 : S0[192]? = some (.inl (.long, 52)) := by decide +kernel
theorem S0_193 : S0[193]? = some (.inl (.long, 52)) := by decide +kernel
theorem S0_194 : S0[194]? = some (.inl (.long, 52)) := by decide +kernel
theorem S0_195 : S0[195]? = some (.inl (.long, 52)) := by decide +kernel
theorem S0_196 : S0[196]? = some (.inl (.array .long, 4)) := by decide +kernel
theorem S0_197 : S0[197]? = some (.inl (.long, 100)) := by decide +kernel
theorem S0_198 : S0[198]? = some (.inl (.long, 100)) := by decide +kernel
theorem S0_199 : S0[199]? = some (.inl (.long, 100)) := by decide +kernel
theorem S0_200 : S0[200]? = some (.inl (.long, 100)) := by decide +kernel
theorem S0_201 : S0[201]? = some (.inr 1) := by decide +kernel
theorem S0_202 : S0[202]? = some (.inl (.array .long, 7)) := by decide +kernel
theorem S0_203 : S0[203]? = some (.inl (.long, 120)) := by decide +kernel
theorem S0_204 : S0[204]? = some (.inl (.long, 120)) := by decide +kernel
theorem S0_205 : S0[205]? = some (.inl (.long, 120)) := by decide +kernel
theorem S0_206 : S0[206]? = some (.inl (.long, 120)) := by decide +kernel
theorem S0_207 : S0[207]? = some (.inl (.long, 120)) := by decide +kernel
theorem S0_208 : S0[208]? = some (.inl (.long, 120)) := by decide +kernel
theorem S0_209 : S0[209]? = some (.inl (.long, 120)) := by decide +kernel
theorem S0_210 : S0[210]? = some (.inl (.array .long, 7)) := by decide +kernel
theorem S0_211 : S0[211]? = some (.inl (.long, 120)) := by decide +kernel
theorem S0_212 : S0[212]? = some (.inl (.long, 120)) := by decide +kernel
theorem S0_213 : S0[213]? = some (.inl (.long, 120)) := by decide +kernel
theorem S0_214 : S0[214]? = some (.inl (.long, 120)) := by decide +kernel
theorem S0_215 : S0[215]? = some (.inl (.long, 120)) := by decide +kernel
theorem S0_216 : S0[216]? = some (.inl (.long, 120)) := by decide +kernel
theorem S0_217 : S0[217]? = some (.inl (.long, 120)) := by decide +kernel
theorem S0_218 : S0[218]? = some (.inl (.long, 7)) := by decide +kernel
theorem S0_219 : S0[219]? = some (.inl (.int, 7)) := by decide +kernel
theorem S0_220 : S0[220]? = some (.inl (.int, 7)) := by decide +kernel
theorem S0_221 : S0[221]? = some (.inl (.int, 7)) := by decide +kernel
theorem S0_222 : S0[222]? = some (.inr 6) := by decide +kernel
theorem S0_223 : S0[223]? = some (.inl (.int, 7)) := by decide +kernel
theorem S0_224 : S0[224]? = some (.inl (.long, 128)) := by decide +kernel
theorem S0_225 : S0[225]? = some (.inr 12) := by decide +kernel
theorem S0_226 : S0[226]? = some (.inl (.int, 700)) := by decide +kernel
theorem S0_227 : S0[227]? = some (.inl (.int, 24)) := by decide +kernel
theorem S0_228 : S0[228]? = some (.inl (.int, 14)) := by decide +kernel
theorem S0_229 : S0[229]? = some (.inl (.int, 14)) := by decide +kernel
theorem S0_230 : S0[230]? = some (.inl (.int, 14)) := by decide +kernel
theorem S0_231 : S0[231]? = some (.inl (.int, 14)) := by decide +kernel
theorem S0_232 : S0[232]? = some (.inl (.int, 20)) := by decide +kernel
theorem S0_233 : S0[233]? = some (.inl (.int, 20)) := by decide +kernel
theorem S0_234 : S0[234]? = some (.inl (.int, 20)) := by decide +kernel
theorem S0_235 : S0[235]? = some (.inl (.int, 20)) := by decide +kernel
theorem S0_236 : S0[236]? = some (.inl (.int, 20)) := by decide +kernel
theorem S0_237 : S0[237]? = some (.inl (.int, 8)) := by decide +kernel
theorem S0_238 : S0[238]? = some (.inl (.int, 8)) := by decide +kernel
theorem S0_239 : S0[239]? = some (.inl (.int, 8)) := by decide +kernel
theorem S0_240 : S0[240]? = some (.inl (.int, 8)) := by decide +kernel
theorem S0_241 : S0[241]? = some (.inl (.int, 48)) := by decide +kernel
theorem S0_242 : S0[242]? = some (.inl (.int, 6)) := by decide +kernel
theorem S0_243 : S0[243]? = some (.inl (.int, 6)) := by decide +kernel
theorem S0_244 : S0[244]? = some (.inl (.int, 128)) := by decide +kernel
theorem S0_245 : S0[245]? = some (.inl (.int, 128)) := by decide +kernel
theorem S0_246 : S0[246]? = some (.inl (.long, 6)) := by decide +kernel
theorem S0_247 : S0[247]? = some (.inl (.long, 64)) := by decide +kernel
theorem S0_248 : S0[248]? = some (.inl (.int, 14)) := by decide +kernel
theorem S0_249 : S0[249]? = some (.inl (.int, 14)) := by decide +kernel
theorem S0_250 : S0[250]? = some (.inl (.int, 14)) := by decide +kernel
theorem S0_251 : S0[251]? = some (.inl (.int, 14)) := by decide +kernel
theorem S0_252 : S0[252]? = some (.inl (.long, 840)) := by decide +kernel
theorem S0_253 : S0[253]? = some (.inl (.long, 840)) := by decide +kernel
theorem S0_254 : S0[254]? = some (.inl (.boolean, 7)) := by decide +kernel
theorem S0_255 : S0[255]? = some (.inl (.int, 140)) := by decide +kernel
theorem S0_256 : S0[256]? = some (.inl (.int, 140)) := by decide +kernel
theorem S0_257 : S0[257]? = some (.inl (.int, 140)) := by decide +kernel
theorem S0_258 : S0[258]? = some (.inl (.int, 140)) := by decide +kernel
theorem S0_259 : S0[259]? = some (.inl (.int, 7)) := by decide +kernel
theorem S0_260 : S0[260]? = some (.inl (.int, 7)) := by decide +kernel
theorem S0_261 : S0[261]? = some (.inl (.int, 7)) := by decide +kernel
theorem S0_262 : S0[262]? = some (.inl (.int, 7)) := by decide +kernel
theorem S0_263 : S0[263]? = some (.inl (.int, 7)) := by decide +kernel
theorem S0_264 : S0[264]? = some (.inl (.long, 364)) := by decide +kernel
theorem S0_265 : S0[265]? = some (.inl (.long, 7)) := by decide +kernel
theorem S0_266 : S0[266]? = some (.inl (.int, 7)) := by decide +kernel
theorem S0_267 : S0[267]? = some (.inl (.int, 7)) := by decide +kernel
theorem S0_268 : S0[268]? = some (.inl (.int, 7)) := by decide +kernel
theorem S0_269 : S0[269]? = some (.inl (.int, 7)) := by decide +kernel
theorem S0_270 : S0[270]? = some (.inl (.int, 7)) := by decide +kernel
theorem S0_271 : S0[271]? = some (.inl (.long, 1)) := by decide +kernel
def R0 (a j : Nat) : Option Nat := match a with
  | 0 => (match j with | 0 => some 1 | 2 => some 2 | 3 => some 42 | 4 => some 82 | 5 => some 90 | 6 => some 117 | 7 => some 160 | 8 => some 222 | _ => none)
  | 2 => (match j with | 1 => some 3 | 5 => some 11 | 7 => some 22 | 9 => some 27 | 10 => some 28 | 11 => some 33 | 12 => some 34 | 15 => some 35 | _ => none)
  | 3 => if j < 7 then some (4 + j) else none
  | 11 => if j < 10 then some (12 + j) else none
  | 22 => if j < 4 then some (23 + j) else none
  | 28 => if j < 4 then some (29 + j) else none
  | 35 => (match j with | 2 => some 36 | 3 => some 37 | 4 => some 38 | 5 => some 39 | 6 => some 40 | 7 => some 41 | _ => none)
  | 42 => (match j with | 1 => some 43 | 5 => some 51 | 7 => some 62 | 9 => some 67 | 10 => some 68 | 11 => some 73 | 12 => some 74 | 15 => some 75 | _ => none)
  | 43 => if j < 7 then some (44 + j) else none
  | 51 => if j < 10 then some (52 + j) else none
  | 62 => if j < 4 then some (63 + j) else none
  | 68 => if j < 4 then some (69 + j) else none
  | 75 => (match j with | 2 => some 76 | 3 => some 77 | 4 => some 78 | 5 => some 79 | 6 => some 80 | 7 => some 81 | _ => none)
  | 82 => (match j with | 0 => some 83 | 1 => some 88 | 2 => some 42 | _ => none)
  | 83 => (match j with | 0 => some 1 | 1 => some 84 | 2 => some 85 | 3 => some 86 | 4 => some 87 | _ => none)
  | 88 => (match j with | 0 => some 83 | 1 => some 89 | 2 => some 75 | _ => none)
  | 90 => (match j with | 0 => some 91 | 1 => some 92 | 2 => some 93 | 3 => some 94 | 6 => some 95 | 8 => some 116 | _ => none)
  | 95 => if j < 20 then some (96 + j) else none
  | 117 => (match j with | 0 => some 118 | 1 => some 139 | 5 => some 90 | 6 => some 2 | _ => none)
  | 118 => (match j with | 0 => some 119 | 1 => some 127 | 2 => some 135 | 3 => some 136 | 4 => some 137 | 5 => some 138 | 7 => some 91 | 8 => some 2 | _ => none)
  | 119 => if j < 7 then some (120 + j) else none
  | 127 => if j < 7 then some (128 + j) else none
  | 139 => (match j with | 0 => some 140 | 1 => some 148 | 2 => some 156 | 3 => some 157 | 4 => some 158 | 5 => some 159 | 7 => some 91 | 8 => some 2 | _ => none)
  | 140 => if j < 7 then some (141 + j) else none
  | 148 => if j < 7 then some (149 + j) else none
  | 160 => (match j with | 3 => some 163 | 4 => some 161 | 5 => some 162 | 6 => some 2 | _ => none)
  | 163 => (match j with | 1 => some 164 | 2 => some 201 | 3 => some 165 | 5 => some 166 | 6 => some 167 | 7 => some 168 | 9 => some 169 | 10 => some 177 | 11 => some 185 | 12 => some 186 | 13 => some 187 | 14 => some 188 | 15 => some 196 | 17 => some 2 | _ => none)
  | 169 => if j < 7 then some (170 + j) else none
  | 177 => if j < 7 then some (178 + j) else none
  | 188 => if j < 7 then some (189 + j) else none
  | 196 => if j < 4 then some (197 + j) else none
  | 201 => (match j with | 0 => some 202 | 1 => some 210 | 2 => some 218 | 3 => some 219 | 4 => some 220 | 5 => some 221 | 7 => some 164 | 8 => some 2 | _ => none)
  | 202 => if j < 7 then some (203 + j) else none
  | 210 => if j < 7 then some (211 + j) else none
  | 222 => (match j with | 1 => some 223 | 2 => some 224 | 3 => some 90 | 4 => some 2 | _ => none)
  | 225 => (match j with | 1 => some 226 | 3 => some 227 | 4 => some 228 | 5 => some 229 | 6 => some 230 | 7 => some 231 | 8 => some 232 | 9 => some 233 | 10 => some 234 | 11 => some 235 | 12 => some 236 | 13 => some 237 | 14 => some 238 | 15 => some 239 | 16 => some 240 | 17 => some 241 | 18 => some 242 | 19 => some 243 | 20 => some 244 | 21 => some 245 | 35 => some 246 | 36 => some 247 | 38 => some 248 | 39 => some 249 | 40 => some 250 | 41 => some 251 | 43 => some 252 | 44 => some 253 | 45 => some 254 | 48 => some 255 | 49 => some 256 | 50 => some 257 | 51 => some 258 | 53 => some 259 | 54 => some 260 | 55 => some 261 | 56 => some 262 | 58 => some 263 | 59 => some 264 | 60 => some 265 | 61 => some 266 | 62 => some 267 | 63 => some 268 | 66 => some 269 | 67 => some 270 | _ => none)
  | _ => none
def law_0 : Option ah_H := (op_nwO 11 law_e).bind fun r1 => (f_X11_init r1.1 r1.2).bind fun σ1 => (op_nwO 12 σ1).bind fun r2 => (f_X12_init r2.1 r2.2).bind fun σ2 => (op_nwA .long 1 σ2).map fun r3 => r3.2
theorem law_0_S : law_0.map ah_S = some S0 := by decide +kernel
/-- references that change: to the towns and their laws -/
def mut0 : List (Nat × Nat) := [(0, 2), (0, 3), (82, 2), (88, 2), (117, 6), (118, 8), (139, 8), (160, 6), (163, 17), (201, 8), (222, 4)]
theorem law_0_R : law_0.map (fun σ => (List.range 272).all fun a => (List.range 70).all fun j => match R0 a j with | none => true | some b => decide (ah_R σ a j = some b)) = some true := by decide +kernel
