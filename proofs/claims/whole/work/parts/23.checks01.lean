/-! THE PROGRAM (8): written by program: the small code is the bytes' own. -/
theorem mzk_81 : mz_ck0 5 prog_7_method_6_code false [] 0 mk_81 = true := by decide +kernel
theorem mzk_82 : mz_ck0 5 prog_7_method_26_code false [] 0 mk_82 = true := by decide +kernel
theorem mzk_83 : mz_ck0 5 prog_7_method_27_code false [] 0 mk_83 = true := by decide +kernel
theorem mzk_84 : mz_ck0 5 prog_7_method_4_code false [] 0 mk_84 = true := by decide +kernel
theorem mzk_85 : mz_ck0 5 prog_7_method_5_code false [] 0 mk_85 = true := by decide +kernel
theorem mzk_86 : mz_ck0 5 prog_7_method_28_code false [] 0 mk_86 = true := by decide +kernel
theorem mzk_87 : mz_ck0 5 prog_7_method_29_code false [] 0 mk_87 = true := by decide +kernel
theorem mzk_88 : mz_ck0 5 prog_7_method_30_code false [] 0 mk_88 = true := by decide +kernel
theorem mzk_89 : mz_ck0 5 prog_7_method_31_code false [] 0 mk_89 = true := by decide +kernel
theorem mzk_90 : mz_ck0 5 prog_7_method_12_code false [] 0 mk_90 = true := by decide +kernel
theorem mzk_91 : mz_ck0 11 prog_1_method_62_code false [] 0 mk_91 = true := by decide +kernel
theorem mzk_92 : mz_ck0 8 prog_10_method_18_code false [] 0 mk_92 = true := by decide +kernel
theorem mzk_93 : mz_ck0 8 prog_10_method_22_code false [] 0 mk_93 = true := by decide +kernel
theorem mzk_94 : mz_ck0 8 prog_10_method_19_code false [] 0 mk_94 = true := by decide +kernel
theorem mzk_95 : mz_ck0 8 prog_10_method_21_code false [] 0 mk_95 = true := by decide +kernel
theorem mzk_96 : mz_ck0 8 prog_10_method_13_code false [] 0 mk_96 = true := by decide +kernel
theorem mzk_97 : mz_ck0 8 prog_10_method_20_code false [] 0 mk_97 = true := by decide +kernel
theorem mzk_98 : mz_ck0 8 prog_10_method_7_code false [] 0 mk_98 = true := by decide +kernel
theorem mzk_99 : mz_ck0 8 prog_10_method_23_code false [] 0 mk_99 = true := by decide +kernel
theorem mzk_100 : mz_ck0 11 prog_1_method_63_code false [] 0 mk_100 = true := by decide +kernel
theorem mzk_101 : mz_ck0 13 method_2_code false [] 0 mk_101 = true := by decide +kernel
theorem mzk_102 : mz_ck0 13 method_3_code false [(0, 9, 12, 13), (0, 9, 15, 15)] 0 mk_102 = true := by decide +kernel
theorem mzk_103 : mz_ck0 11 prog_1_method_7_code false [] 0 mk_103 = true := by decide +kernel
theorem mzk_104 : mz_ck0 11 prog_1_method_2_code false [] 0 mk_104 = true := by decide +kernel
theorem mzk_105 : mz_ck0 11 prog_1_method_3_code false [] 0 mk_105 = true := by decide +kernel
theorem mzk_106 : mz_ck0 13 method_4_code false [(0, 18, 21, 13), (0, 18, 25, 15)] 0 mk_106 = true := by decide +kernel
theorem mzk_107 : mz_ck0 11 prog_1_method_8_code false [] 0 mk_107 = true := by decide +kernel
theorem mzk_108 : mz_ck0 5 prog_7_method_13_code false [] 0 mk_108 = true := by decide +kernel
theorem mzk_109 : mz_ck0 5 prog_7_method_9_code false [] 0 mk_109 = true := by decide +kernel
theorem mzk_110 : mz_ck0 13 method_5_code false [(0, 9, 12, 13), (0, 9, 15, 15)] 0 mk_110 = true := by decide +kernel
theorem mzk_111 : mz_ck0 11 prog_1_method_9_code false [] 0 mk_111 = true := by decide +kernel
theorem mzk_112 : mz_ck0 5 prog_7_method_16_code false [] 0 mk_112 = true := by decide +kernel
theorem mzk_113 : mz_ck0 5 prog_7_method_15_code false [] 0 mk_113 = true := by decide +kernel
theorem mzk_114 : mz_ck0 5 prog_7_method_14_code false [] 0 mk_114 = true := by decide +kernel
theorem mzk_115 : mz_ck0 5 prog_7_method_19_code false [] 0 mk_115 = true := by decide +kernel
theorem mzk_116 : mz_ck0 5 prog_7_method_20_code false [] 0 mk_116 = true := by decide +kernel
theorem mzk_117 : mz_ck0 4 prog_6_method_3_code false [] 0 mk_117 = true := by decide +kernel
theorem mzk_118 : mz_ck0 5 prog_7_method_21_code false [] 0 mk_118 = true := by decide +kernel
theorem mzk_119 : mz_ck0 4 prog_6_method_4_code false [] 0 mk_119 = true := by decide +kernel
theorem mzk_120 : mz_ck0 5 prog_7_method_22_code false [] 0 mk_120 = true := by decide +kernel
theorem mzk_121 : mz_ck0 4 prog_6_method_5_code false [] 0 mk_121 = true := by decide +kernel
theorem mzk_122 : mz_ck0 4 prog_6_method_6_code false [] 0 mk_122 = true := by decide +kernel
theorem mzk_123 : mz_ck0 5 prog_7_method_37_code false [] 0 mk_123 = true := by decide +kernel
theorem mzk_124 : mz_ck0 5 prog_7_method_40_code false [] 0 mk_124 = true := by decide +kernel
theorem mzk_125 : mz_ck0 3 prog_5_method_29_code false [] 0 mk_125 = true := by decide +kernel
theorem mzk_126 : mz_ck0 6 prog_8_method_12_code false [] 0 mk_126 = true := by decide +kernel
theorem mzk_127 : mz_ck0 9 prog_11_method_15_code false [] 0 mk_127 = true := by decide +kernel
theorem mzk_128 : mz_ck0 1 prog_3_method_13_code false [] 0 mk_128 = true := by decide +kernel
theorem mzk_129 : mz_ck0 1 prog_3_method_18_code false [] 0 mk_129 = true := by decide +kernel
theorem mzk_130 : mz_ck0 1 prog_3_method_21_code false [] 0 mk_130 = true := by decide +kernel
theorem mzk_131 : mz_ck0 2 prog_4_method_29_code false [] 0 mk_131 = true := by decide +kernel
theorem mzk_132 : mz_ck0 2 prog_4_method_32_code false [] 0 mk_132 = true := by decide +kernel
theorem mzk_133 : mz_ck0 0 prog_2_method_17_code false [] 0 mk_133 = true := by decide +kernel
theorem mzk_134 : mz_ck0 0 prog_2_method_19_code false [] 0 mk_134 = true := by decide +kernel
theorem mzk_135 : mz_ck0 10 prog_12_method_8_code false [] 0 mk_135 = true := by decide +kernel
theorem mzk_136 : mz_ck0 8 prog_10_method_15_code false [] 0 mk_136 = true := by decide +kernel
theorem mzk_137 : mz_ck0 8 prog_10_method_14_code false [] 0 mk_137 = true := by decide +kernel
theorem mzk_138 : mz_ck0 8 prog_10_method_10_code false [] 0 mk_138 = true := by decide +kernel
theorem mzk_139 : mz_ck0 8 prog_10_method_16_code false [] 0 mk_139 = true := by decide +kernel
theorem mzk_140 : mz_ck0 13 method_6_code false [(0, 10, 13, 13), (0, 10, 17, 15)] 0 mk_140 = true := by decide +kernel
theorem mzk_141 : mz_ck0 11 prog_1_method_10_code false [] 0 mk_141 = true := by decide +kernel
theorem mzk_142 : mz_ck0 11 prog_1_method_4_code false [] 0 mk_142 = true := by decide +kernel
theorem mzk_143 : mz_ck0 5 prog_7_method_17_code false [] 0 mk_143 = true := by decide +kernel
theorem mzk_144 : mz_ck0 13 method_7_code false [(0, 12, 15, 13), (0, 12, 19, 15)] 0 mk_144 = true := by decide +kernel
theorem mzk_145 : mz_ck0 11 prog_1_method_11_code false [] 0 mk_145 = true := by decide +kernel
theorem mzk_146 : mz_ck0 5 prog_7_method_18_code false [] 0 mk_146 = true := by decide +kernel
theorem mzk_147 : mz_ck0 13 method_8_code false [(0, 10, 13, 13), (0, 10, 17, 15)] 0 mk_147 = true := by decide +kernel
theorem mzk_148 : mz_ck0 11 prog_1_method_12_code false [] 0 mk_148 = true := by decide +kernel
theorem mzk_149 : mz_ck0 13 method_9_code false [(0, 12, 15, 13), (0, 12, 19, 15)] 0 mk_149 = true := by decide +kernel
theorem mzk_150 : mz_ck0 11 prog_1_method_13_code false [] 0 mk_150 = true := by decide +kernel
theorem mzk_151 : mz_ck0 13 method_10_code false [(0, 8, 11, 15)] 0 mk_151 = true := by decide +kernel
theorem mzk_152 : mz_ck0 11 prog_1_method_14_code false [] 0 mk_152 = true := by decide +kernel
theorem mzk_153 : mz_ck0 13 method_11_code false [(0, 8, 11, 15)] 0 mk_153 = true := by decide +kernel
theorem mzk_154 : mz_ck0 11 prog_1_method_15_code false [] 0 mk_154 = true := by decide +kernel
theorem mzk_155 : mz_ck0 13 method_12_code false [(0, 10, 13, 13), (0, 10, 17, 15)] 0 mk_155 = true := by decide +kernel
theorem mzk_156 : mz_ck0 11 prog_1_method_16_code false [] 0 mk_156 = true := by decide +kernel
theorem mzk_157 : mz_ck0 3 prog_5_method_5_code false [] 0 mk_157 = true := by decide +kernel
theorem mzk_158 : mz_ck0 3 prog_5_method_3_code false [] 0 mk_158 = true := by decide +kernel
theorem mzk_159 : mz_ck0 3 prog_5_method_4_code false [] 0 mk_159 = true := by decide +kernel
theorem mzk_160 : mz_ck0 15 prog_22_method_49_code false [] 0 mk_160 = true := by decide +kernel
theorem mzk_161 : mz_ck0 13 method_13_code false [(0, 10, 13, 13), (0, 10, 17, 15)] 0 mk_161 = true := by decide +kernel
theorem mzk_162 : mz_ck0 11 prog_1_method_17_code false [] 0 mk_162 = true := by decide +kernel
theorem mzk_163 : mz_ck0 13 method_14_code false [(0, 12, 15, 13), (0, 12, 19, 15)] 0 mk_163 = true := by decide +kernel
theorem mzk_164 : mz_ck0 11 prog_1_method_18_code false [] 0 mk_164 = true := by decide +kernel
theorem mzk_165 : mz_ck0 5 prog_7_method_32_code false [] 0 mk_165 = true := by decide +kernel
theorem mzk_166 : mz_ck0 5 prog_7_method_34_code false [] 0 mk_166 = true := by decide +kernel
theorem mzk_167 : mz_ck0 5 prog_7_method_33_code false [] 0 mk_167 = true := by decide +kernel
theorem mzk_168 : mz_ck0 13 method_15_code false [(0, 12, 15, 13), (0, 12, 19, 15)] 0 mk_168 = true := by decide +kernel
theorem mzk_169 : mz_ck0 11 prog_1_method_19_code false [] 0 mk_169 = true := by decide +kernel
theorem mzk_170 : mz_ck0 5 prog_7_method_2_code false [] 0 mk_170 = true := by decide +kernel
theorem mzk_171 : mz_ck0 11 prog_1_method_6_code false [] 0 mk_171 = true := by decide +kernel
theorem mzk_172 : mz_ck0 13 method_16_code false [(0, 12, 15, 13), (0, 12, 19, 15)] 0 mk_172 = true := by decide +kernel
