set_option maxRecDepth 100000 in
theorem ckm_0 : ckM 0 77 = true := by decide +kernel
set_option maxRecDepth 100000 in
theorem ckm_1 : ckM 1 42 = true := by decide +kernel
set_option maxRecDepth 100000 in
theorem ckm_2 : ckM 2 95 = true := by decide +kernel
set_option maxRecDepth 100000 in
theorem ckm_3 : ckM 3 39 = true := by decide +kernel
set_option maxRecDepth 100000 in
theorem ckm_4 : ckM 4 127 = true := by decide +kernel
set_option maxRecDepth 100000 in
theorem ckm_5 : ckM 5 70 = true := by decide +kernel
set_option maxRecDepth 100000 in
theorem ckm_6 : ckM 6 91 = true := by decide +kernel
set_option maxRecDepth 100000 in
theorem ckm_7 : ckM 7 39 = true := by decide +kernel
set_option maxRecDepth 100000 in
theorem ckm_8 : ckM 8 110 = true := by decide +kernel
set_option maxRecDepth 100000 in
theorem ckm_9 : ckM 9 143 = true := by decide +kernel
set_option maxRecDepth 100000 in
theorem ckm_10 : ckM 10 109 = true := by decide +kernel
set_option maxRecDepth 100000 in
theorem ckm_11 : ckM 11 17 = true := by decide +kernel
set_option maxRecDepth 100000 in
theorem ckm_12 : ckM 12 38 = true := by decide +kernel
set_option maxRecDepth 100000 in
theorem ckm_13 : ckM 13 43 = true := by decide +kernel
set_option maxRecDepth 100000 in
theorem ckm_14 : ckM 14 15 = true := by decide +kernel
set_option maxRecDepth 100000 in
theorem ckm_15 : ckM 15 45 = true := by decide +kernel
set_option maxRecDepth 100000 in
theorem ckm_16 : ckM 16 120 = true := by decide +kernel
set_option maxRecDepth 100000 in
theorem ckm_17 : ckM 17 111 = true := by decide +kernel
set_option maxRecDepth 100000 in
theorem ckm_18 : ckM 18 76 = true := by decide +kernel
set_option maxRecDepth 100000 in
theorem ckm_19 : ckM 19 102 = true := by decide +kernel
set_option maxRecDepth 100000 in
theorem ckm_20 : ckM 20 47 = true := by decide +kernel
set_option maxRecDepth 100000 in
theorem ckm_21 : ckM 21 160 = true := by decide +kernel
set_option maxRecDepth 100000 in
theorem ckm_22 : ckM 22 24 = true := by decide +kernel
set_option maxRecDepth 100000 in
theorem ckm_23 : ckM 23 22 = true := by decide +kernel
set_option maxRecDepth 100000 in
theorem ckm_24 : ckM 24 25 = true := by decide +kernel
set_option maxRecDepth 100000 in
theorem ckm_25 : ckM 25 48 = true := by decide +kernel
set_option maxRecDepth 100000 in
theorem ckm_26 : ckM 26 73 = true := by decide +kernel
set_option maxRecDepth 100000 in
theorem ckm_27 : ckM 27 89 = true := by decide +kernel
set_option maxRecDepth 100000 in
theorem ckm_28 : ckM 28 18 = true := by decide +kernel
set_option maxRecDepth 100000 in
theorem ckm_29 : ckM 29 18 = true := by decide +kernel
set_option maxRecDepth 100000 in
theorem ckm_30 : ckM 30 18 = true := by decide +kernel
set_option maxRecDepth 100000 in
theorem ckm_31 : ckM 31 18 = true := by decide +kernel
set_option maxRecDepth 100000 in
theorem ckm_32 : ckM 32 20 = true := by decide +kernel
set_option maxRecDepth 100000 in
theorem ckm_33 : ckM 33 7 = true := by decide +kernel
set_option maxRecDepth 100000 in
theorem ckm_34 : ckM 34 9 = true := by decide +kernel
set_option maxRecDepth 100000 in
theorem ckm_35 : ckM 35 12 = true := by decide +kernel
set_option maxRecDepth 100000 in
theorem ckm_36 : ckM 36 12 = true := by decide +kernel
set_option maxRecDepth 100000 in
theorem ckm_37 : ckM 37 12 = true := by decide +kernel
set_option maxRecDepth 100000 in
theorem ckm_38 : ckM 38 105 = true := by decide +kernel
set_option maxRecDepth 100000 in
theorem ckm_39 : ckM 39 94 = true := by decide +kernel
set_option maxRecDepth 100000 in
theorem ckm_40 : ckM 40 191 = true := by decide +kernel
set_option maxRecDepth 100000 in
theorem ckm_41 : ckM 41 41 = true := by decide +kernel
set_option maxRecDepth 100000 in
theorem ckm_42 : ckM 42 28 = true := by decide +kernel
set_option maxRecDepth 100000 in
theorem ckm_43 : ckM 43 37 = true := by decide +kernel
set_option maxRecDepth 100000 in
theorem ckm_44 : ckM 44 69 = true := by decide +kernel
set_option maxRecDepth 100000 in
theorem ckm_45 : ckM 45 114 = true := by decide +kernel
set_option maxRecDepth 100000 in
theorem ckm_46 : ckM 46 34 = true := by decide +kernel
set_option maxRecDepth 100000 in
theorem ckm_47 : ckM 47 65 = true := by decide +kernel
set_option maxRecDepth 100000 in
theorem ckm_48 : ckM 48 120 = true := by decide +kernel
set_option maxRecDepth 100000 in
theorem ckm_49 : ckM 49 14 = true := by decide +kernel
set_option maxRecDepth 100000 in
theorem ckm_50 : ckM 50 21 = true := by decide +kernel
set_option maxRecDepth 100000 in
theorem ckm_51 : ckM 51 43 = true := by decide +kernel
set_option maxRecDepth 100000 in
theorem ckm_52 : ckM 52 38 = true := by decide +kernel
set_option maxRecDepth 100000 in
theorem ckm_53 : ckM 53 96 = true := by decide +kernel
set_option maxRecDepth 100000 in
theorem ckm_54 : ckM 54 115 = true := by decide +kernel
set_option maxRecDepth 100000 in
theorem ckm_55 : ckM 55 57 = true := by decide +kernel
set_option maxRecDepth 100000 in
theorem ckm_56 : ckM 56 31 = true := by decide +kernel
set_option maxRecDepth 100000 in
theorem ckm_57 : ckM 57 112 = true := by decide +kernel
set_option maxRecDepth 100000 in
theorem ckm_58 : ckM 58 22 = true := by decide +kernel
set_option maxRecDepth 100000 in
theorem ckm_59 : ckM 59 163 = true := by decide +kernel
set_option maxRecDepth 100000 in
theorem ckm_60 : ckM 60 55 = true := by decide +kernel
set_option maxRecDepth 100000 in
theorem ckm_61 : ckM 61 52 = true := by decide +kernel
set_option maxRecDepth 100000 in
theorem ckm_62 : ckM 62 59 = true := by decide +kernel
set_option maxRecDepth 100000 in
theorem ckm_63 : ckM 63 103 = true := by decide +kernel
set_option maxRecDepth 100000 in
theorem ckm_64 : ckM 64 129 = true := by decide +kernel
set_option maxRecDepth 100000 in
theorem ckm_65 : ckM 65 74 = true := by decide +kernel
set_option maxRecDepth 100000 in
theorem ckm_66 : ckM 66 30 = true := by decide +kernel
set_option maxRecDepth 100000 in
theorem ckm_67 : ckM 67 37 = true := by decide +kernel
set_option maxRecDepth 100000 in
theorem ckm_68 : ckM 68 34 = true := by decide +kernel
set_option maxRecDepth 100000 in
theorem ckm_69 : ckM 69 220 = true := by decide +kernel
set_option maxRecDepth 100000 in
theorem ckm_70 : ckM 70 37 = true := by decide +kernel
set_option maxRecDepth 100000 in
theorem ckm_71 : ckM 71 137 = true := by decide +kernel
set_option maxRecDepth 100000 in
theorem ckm_72 : ckM 72 60 = true := by decide +kernel
set_option maxRecDepth 100000 in
theorem ckm_73 : ckM 73 232 = true := by decide +kernel
set_option maxRecDepth 100000 in
theorem ckm_74 : ckM 74 70 = true := by decide +kernel
set_option maxRecDepth 100000 in
theorem ckm_75 : ckM 75 209 = true := by decide +kernel
set_option maxRecDepth 100000 in
theorem ckm_76 : ckM 76 75 = true := by decide +kernel
set_option maxRecDepth 100000 in
theorem ckm_77 : ckM 77 60 = true := by decide +kernel
set_option maxRecDepth 100000 in
theorem ckm_78 : ckM 78 104 = true := by decide +kernel
set_option maxRecDepth 100000 in
theorem ckm_79 : ckM 79 52 = true := by decide +kernel
set_option maxRecDepth 100000 in
theorem ckm_80 : ckM 80 152 = true := by decide +kernel
set_option maxRecDepth 100000 in
theorem ckm_81 : ckM 81 42 = true := by decide +kernel
set_option maxRecDepth 100000 in
theorem ckm_82 : ckM 82 141 = true := by decide +kernel
set_option maxRecDepth 100000 in
theorem ckm_83 : ckM 83 232 = true := by decide +kernel
set_option maxRecDepth 100000 in
theorem ckm_84 : ckM 84 134 = true := by decide +kernel
set_option maxRecDepth 100000 in
theorem ckm_85 : ckM 85 134 = true := by decide +kernel
set_option maxRecDepth 100000 in
theorem ckm_86 : ckM 86 71 = true := by decide +kernel
set_option maxRecDepth 100000 in
theorem ckm_87 : ckM 87 53 = true := by decide +kernel
set_option maxRecDepth 100000 in
theorem ckm_88 : ckM 88 45 = true := by decide +kernel
set_option maxRecDepth 100000 in
theorem ckm_89 : ckM 89 20 = true := by decide +kernel
set_option maxRecDepth 100000 in
theorem ckm_90 : ckM 90 131 = true := by decide +kernel
set_option maxRecDepth 100000 in
theorem ckm_91 : ckM 91 138 = true := by decide +kernel
set_option maxRecDepth 100000 in
theorem ckm_92 : ckM 92 115 = true := by decide +kernel
set_option maxRecDepth 100000 in
theorem ckm_93 : ckM 93 168 = true := by decide +kernel
set_option maxRecDepth 100000 in
theorem ckm_94 : ckM 94 80 = true := by decide +kernel
set_option maxRecDepth 100000 in
theorem ckm_95 : ckM 95 75 = true := by decide +kernel
set_option maxRecDepth 100000 in
theorem ckm_96 : ckM 96 53 = true := by decide +kernel
set_option maxRecDepth 100000 in
theorem ckm_97 : ckM 97 53 = true := by decide +kernel
set_option maxRecDepth 100000 in
theorem ckm_98 : ckM 98 54 = true := by decide +kernel
set_option maxRecDepth 100000 in
theorem ckm_99 : ckM 99 21 = true := by decide +kernel
set_option maxRecDepth 100000 in
theorem ckm_100 : ckM 100 66 = true := by decide +kernel
set_option maxRecDepth 100000 in
theorem ckm_101 : ckM 101 56 = true := by decide +kernel
set_option maxRecDepth 100000 in
theorem ckm_102 : ckM 102 58 = true := by decide +kernel
set_option maxRecDepth 100000 in
theorem ckm_103 : ckM 103 33 = true := by decide +kernel
set_option maxRecDepth 100000 in
theorem ckm_104 : ckM 104 48 = true := by decide +kernel
set_option maxRecDepth 100000 in
theorem ckm_105 : ckM 105 12 = true := by decide +kernel
set_option maxRecDepth 100000 in
theorem ckm_106 : ckM 106 12 = true := by decide +kernel
set_option maxRecDepth 100000 in
theorem ckm_107 : ckM 107 23 = true := by decide +kernel
set_option maxRecDepth 100000 in
theorem ckm_108 : ckM 108 26 = true := by decide +kernel
set_option maxRecDepth 100000 in
theorem ckm_109 : ckM 109 92 = true := by decide +kernel
set_option maxRecDepth 100000 in
theorem ckm_110 : ckM 110 227 = true := by decide +kernel
set_option maxRecDepth 100000 in
theorem ckm_111 : ckM 111 279 = true := by decide +kernel
set_option maxRecDepth 100000 in
theorem ckm_112 : ckM 112 22 = true := by decide +kernel
set_option maxRecDepth 100000 in
theorem ckm_113 : ckM 113 136 = true := by decide +kernel
set_option maxRecDepth 100000 in
theorem ckm_114 : ckM 114 31 = true := by decide +kernel
set_option maxRecDepth 100000 in
theorem ckm_115 : ckM 115 44 = true := by decide +kernel
set_option maxRecDepth 100000 in
theorem ckm_116 : ckM 116 115 = true := by decide +kernel
set_option maxRecDepth 100000 in
theorem ckm_117 : ckM 117 115 = true := by decide +kernel
set_option maxRecDepth 100000 in
theorem ckm_118 : ckM 118 162 = true := by decide +kernel
set_option maxRecDepth 100000 in
theorem ckm_119 : ckM 119 47 = true := by decide +kernel
set_option maxRecDepth 100000 in
theorem ckm_120 : ckM 120 89 = true := by decide +kernel
set_option maxRecDepth 100000 in
theorem ckm_121 : ckM 121 40 = true := by decide +kernel
set_option maxRecDepth 100000 in
theorem ckm_122 : ckM 122 30 = true := by decide +kernel
set_option maxRecDepth 100000 in
theorem ckm_123 : ckM 123 30 = true := by decide +kernel
set_option maxRecDepth 100000 in
theorem ckm_124 : ckM 124 96 = true := by decide +kernel
set_option maxRecDepth 100000 in
theorem ckm_125 : ckM 125 32 = true := by decide +kernel
set_option maxRecDepth 100000 in
theorem ckm_126 : ckM 126 29 = true := by decide +kernel
set_option maxRecDepth 100000 in
theorem ckm_127 : ckM 127 27 = true := by decide +kernel
set_option maxRecDepth 100000 in
theorem ckm_128 : ckM 128 56 = true := by decide +kernel
set_option maxRecDepth 100000 in
theorem ckm_129 : ckM 129 63 = true := by decide +kernel
set_option maxRecDepth 100000 in
theorem ckm_130 : ckM 130 70 = true := by decide +kernel
set_option maxRecDepth 100000 in
theorem ckm_131 : ckM 131 54 = true := by decide +kernel
set_option maxRecDepth 100000 in
theorem ckm_132 : ckM 132 33 = true := by decide +kernel
set_option maxRecDepth 100000 in
theorem ckm_133 : ckM 133 18 = true := by decide +kernel
set_option maxRecDepth 100000 in
theorem ckm_134 : ckM 134 73 = true := by decide +kernel
set_option maxRecDepth 100000 in
theorem ckm_135 : ckM 135 65 = true := by decide +kernel
set_option maxRecDepth 100000 in
theorem ckm_136 : ckM 136 25 = true := by decide +kernel
set_option maxRecDepth 100000 in
theorem ckm_137 : ckM 137 47 = true := by decide +kernel
set_option maxRecDepth 100000 in
theorem ckm_138 : ckM 138 42 = true := by decide +kernel
set_option maxRecDepth 100000 in
theorem ckm_139 : ckM 139 51 = true := by decide +kernel
set_option maxRecDepth 100000 in
theorem ckm_140 : ckM 140 34 = true := by decide +kernel
set_option maxRecDepth 100000 in
theorem ckm_141 : ckM 141 51 = true := by decide +kernel
set_option maxRecDepth 100000 in
theorem ckm_142 : ckM 142 30 = true := by decide +kernel
set_option maxRecDepth 100000 in
theorem ckm_143 : ckM 143 28 = true := by decide +kernel
set_option maxRecDepth 100000 in
theorem ckm_144 : ckM 144 32 = true := by decide +kernel
set_option maxRecDepth 100000 in
theorem ckm_145 : ckM 145 8 = true := by decide +kernel
set_option maxRecDepth 100000 in
theorem ckm_146 : ckM 146 13 = true := by decide +kernel
set_option maxRecDepth 100000 in
theorem ckm_147 : ckM 147 126 = true := by decide +kernel
set_option maxRecDepth 100000 in
theorem ckm_148 : ckM 148 47 = true := by decide +kernel
set_option maxRecDepth 100000 in
theorem ckm_149 : ckM 149 47 = true := by decide +kernel
set_option maxRecDepth 100000 in
theorem ckm_150 : ckM 150 26 = true := by decide +kernel
set_option maxRecDepth 100000 in
theorem ckm_151 : ckM 151 34 = true := by decide +kernel
set_option maxRecDepth 100000 in
theorem ckm_152 : ckM 152 608 = true := by decide +kernel
set_option maxRecDepth 100000 in
theorem ckm_153 : ckM 153 5 = true := by decide +kernel
set_option maxRecDepth 100000 in
theorem ckm_154 : ckM 154 129 = true := by decide +kernel
set_option maxRecDepth 100000 in
theorem ckm_155 : ckM 155 16 = true := by decide +kernel
set_option maxRecDepth 100000 in
theorem ckm_156 : ckM 156 15 = true := by decide +kernel
set_option maxRecDepth 100000 in
theorem ckm_157 : ckM 157 128 = true := by decide +kernel
set_option maxRecDepth 100000 in
theorem ckm_158 : ckM 158 36 = true := by decide +kernel
set_option maxRecDepth 100000 in
theorem ckm_159 : ckM 159 36 = true := by decide +kernel
set_option maxRecDepth 100000 in
theorem ckm_160 : ckM 160 310 = true := by decide +kernel
set_option maxRecDepth 100000 in
theorem ckm_161 : ckM 161 47 = true := by decide +kernel
set_option maxRecDepth 100000 in
theorem ckm_162 : ckM 162 22 = true := by decide +kernel
set_option maxRecDepth 100000 in
theorem ckm_163 : ckM 163 39 = true := by decide +kernel
set_option maxRecDepth 100000 in
theorem ckm_164 : ckM 164 44 = true := by decide +kernel
set_option maxRecDepth 100000 in
theorem ckm_165 : ckM 165 36 = true := by decide +kernel
set_option maxRecDepth 100000 in
theorem ckm_166 : ckM 166 35 = true := by decide +kernel
set_option maxRecDepth 100000 in
theorem ckm_167 : ckM 167 81 = true := by decide +kernel
set_option maxRecDepth 100000 in
theorem ckm_168 : ckM 168 47 = true := by decide +kernel
set_option maxRecDepth 100000 in
theorem ckm_169 : ckM 169 100 = true := by decide +kernel
set_option maxRecDepth 100000 in
theorem ckm_170 : ckM 170 123 = true := by decide +kernel
set_option maxRecDepth 100000 in
theorem ckm_171 : ckM 171 26 = true := by decide +kernel
set_option maxRecDepth 100000 in
theorem ckm_172 : ckM 172 419 = true := by decide +kernel
set_option maxRecDepth 100000 in
theorem ckm_173 : ckM 173 117 = true := by decide +kernel
set_option maxRecDepth 100000 in
theorem ckm_174 : ckM 174 77 = true := by decide +kernel
set_option maxRecDepth 100000 in
theorem ckm_175 : ckM 175 105 = true := by decide +kernel
set_option maxRecDepth 100000 in
theorem ckm_176 : ckM 176 51 = true := by decide +kernel
set_option maxRecDepth 100000 in
theorem ckm_177 : ckM 177 158 = true := by decide +kernel
set_option maxRecDepth 100000 in
theorem ckm_178 : ckM 178 83 = true := by decide +kernel
set_option maxRecDepth 100000 in
theorem ckm_179 : ckM 179 30 = true := by decide +kernel
set_option maxRecDepth 100000 in
theorem ckm_180 : ckM 180 7 = true := by decide +kernel
set_option maxRecDepth 100000 in
theorem ckm_181 : ckM 181 7 = true := by decide +kernel
set_option maxRecDepth 100000 in
theorem ckm_182 : ckM 182 631 = true := by decide +kernel
set_option maxRecDepth 100000 in
theorem ckm_183 : ckM 183 11 = true := by decide +kernel
set_option maxRecDepth 100000 in
theorem ckm_184 : ckM 184 37 = true := by decide +kernel
set_option maxRecDepth 100000 in
theorem ckm_185 : ckM 185 320 = true := by decide +kernel
set_option maxRecDepth 100000 in
theorem ckm_186 : ckM 186 45 = true := by decide +kernel
set_option maxRecDepth 100000 in
theorem ckm_187 : ckM 187 33 = true := by decide +kernel
set_option maxRecDepth 100000 in
theorem ckm_188 : ckM 188 19 = true := by decide +kernel
set_option maxRecDepth 100000 in
theorem ckm_189 : ckM 189 40 = true := by decide +kernel
set_option maxRecDepth 100000 in
theorem ckm_190 : ckM 190 92 = true := by decide +kernel
set_option maxRecDepth 100000 in
theorem ckm_191 : ckM 191 18 = true := by decide +kernel
set_option maxRecDepth 100000 in
theorem ckm_192 : ckM 192 18 = true := by decide +kernel
set_option maxRecDepth 100000 in
theorem ckm_193 : ckM 193 18 = true := by decide +kernel
set_option maxRecDepth 100000 in
theorem ckm_194 : ckM 194 18 = true := by decide +kernel
set_option maxRecDepth 100000 in
theorem ckm_195 : ckM 195 26 = true := by decide +kernel
set_option maxRecDepth 100000 in
theorem ckm_196 : ckM 196 26 = true := by decide +kernel
set_option maxRecDepth 100000 in
theorem ckm_197 : ckM 197 71 = true := by decide +kernel
set_option maxRecDepth 100000 in
theorem ckm_198 : ckM 198 7 = true := by decide +kernel
set_option maxRecDepth 100000 in
theorem ckm_199 : ckM 199 55 = true := by decide +kernel
set_option maxRecDepth 100000 in
theorem ckm_200 : ckM 200 28 = true := by decide +kernel
set_option maxRecDepth 100000 in
theorem ckm_201 : ckM 201 91 = true := by decide +kernel
set_option maxRecDepth 100000 in
theorem ckm_202 : ckM 202 102 = true := by decide +kernel
set_option maxRecDepth 100000 in
theorem ckm_203 : ckM 203 195 = true := by decide +kernel
set_option maxRecDepth 100000 in
theorem ckm_204 : ckM 204 37 = true := by decide +kernel
set_option maxRecDepth 100000 in
theorem ckm_205 : ckM 205 46 = true := by decide +kernel
set_option maxRecDepth 100000 in
theorem ckm_206 : ckM 206 30 = true := by decide +kernel
set_option maxRecDepth 100000 in
theorem ckm_207 : ckM 207 43 = true := by decide +kernel
set_option maxRecDepth 100000 in
theorem ckm_208 : ckM 208 246 = true := by decide +kernel
set_option maxRecDepth 100000 in
theorem ckm_209 : ckM 209 142 = true := by decide +kernel
set_option maxRecDepth 100000 in
theorem ckm_210 : ckM 210 160 = true := by decide +kernel
set_option maxRecDepth 100000 in
theorem ckm_211 : ckM 211 36 = true := by decide +kernel
set_option maxRecDepth 100000 in
theorem ckm_212 : ckM 212 23 = true := by decide +kernel
set_option maxRecDepth 100000 in
theorem ckm_213 : ckM 213 101 = true := by decide +kernel
set_option maxRecDepth 100000 in
theorem ckm_214 : ckM 214 396 = true := by decide +kernel
set_option maxRecDepth 100000 in
theorem ckm_215 : ckM 215 82 = true := by decide +kernel
set_option maxRecDepth 100000 in
theorem ckm_216 : ckM 216 135 = true := by decide +kernel
set_option maxRecDepth 100000 in
theorem ckm_217 : ckM 217 124 = true := by decide +kernel
set_option maxRecDepth 100000 in
theorem ckm_218 : ckM 218 24 = true := by decide +kernel
set_option maxRecDepth 100000 in
theorem ckm_219 : ckM 219 51 = true := by decide +kernel
set_option maxRecDepth 100000 in
theorem ckm_220 : ckM 220 27 = true := by decide +kernel
set_option maxRecDepth 100000 in
theorem ckm_221 : ckM 221 114 = true := by decide +kernel
set_option maxRecDepth 100000 in
theorem ckm_222 : ckM 222 173 = true := by decide +kernel
set_option maxRecDepth 100000 in
theorem ckm_223 : ckM 223 91 = true := by decide +kernel
set_option maxRecDepth 100000 in
theorem ckm_224 : ckM 224 207 = true := by decide +kernel
set_option maxRecDepth 100000 in
theorem ckm_225 : ckM 225 39 = true := by decide +kernel
set_option maxRecDepth 100000 in
theorem ckm_226 : ckM 226 120 = true := by decide +kernel
set_option maxRecDepth 100000 in
theorem ckm_227 : ckM 227 81 = true := by decide +kernel
set_option maxRecDepth 100000 in
theorem ckm_228 : ckM 228 71 = true := by decide +kernel
set_option maxRecDepth 100000 in
theorem ckm_229 : ckM 229 145 = true := by decide +kernel
set_option maxRecDepth 100000 in
theorem ckm_230 : ckM 230 31 = true := by decide +kernel
set_option maxRecDepth 100000 in
theorem ckm_231 : ckM 231 75 = true := by decide +kernel
set_option maxRecDepth 100000 in
theorem ckm_232 : ckM 232 16 = true := by decide +kernel
set_option maxRecDepth 100000 in
theorem ckm_233 : ckM 233 70 = true := by decide +kernel
set_option maxRecDepth 100000 in
theorem ckm_234 : ckM 234 34 = true := by decide +kernel
set_option maxRecDepth 100000 in
theorem ckm_235 : ckM 235 97 = true := by decide +kernel
set_option maxRecDepth 100000 in
theorem ckm_236 : ckM 236 53 = true := by decide +kernel
set_option maxRecDepth 100000 in
theorem ckm_237 : ckM 237 63 = true := by decide +kernel
set_option maxRecDepth 100000 in
theorem ckm_238 : ckM 238 86 = true := by decide +kernel
set_option maxRecDepth 100000 in
theorem ckm_239 : ckM 239 16 = true := by decide +kernel
set_option maxRecDepth 100000 in
theorem ckm_240 : ckM 240 64 = true := by decide +kernel
set_option maxRecDepth 100000 in
theorem ckm_241 : ckM 241 68 = true := by decide +kernel
set_option maxRecDepth 100000 in
theorem ckm_242 : ckM 242 17 = true := by decide +kernel
set_option maxRecDepth 100000 in
theorem ckm_243 : ckM 243 110 = true := by decide +kernel
set_option maxRecDepth 100000 in
theorem ckm_244 : ckM 244 27 = true := by decide +kernel
set_option maxRecDepth 100000 in
theorem ckm_245 : ckM 245 235 = true := by decide +kernel
set_option maxRecDepth 100000 in
theorem ckm_246 : ckM 246 127 = true := by decide +kernel
set_option maxRecDepth 100000 in
theorem ckm_247 : ckM 247 66 = true := by decide +kernel
set_option maxRecDepth 100000 in
theorem ckm_248 : ckM 248 118 = true := by decide +kernel
set_option maxRecDepth 100000 in
theorem ckm_249 : ckM 249 84 = true := by decide +kernel
set_option maxRecDepth 100000 in
theorem ckm_250 : ckM 250 93 = true := by decide +kernel
set_option maxRecDepth 100000 in
theorem ckm_251 : ckM 251 252 = true := by decide +kernel
set_option maxRecDepth 100000 in
theorem ckm_252 : ckM 252 185 = true := by decide +kernel
set_option maxRecDepth 100000 in
theorem ckm_253 : ckM 253 141 = true := by decide +kernel
set_option maxRecDepth 100000 in
theorem ckm_254 : ckM 254 67 = true := by decide +kernel
set_option maxRecDepth 100000 in
theorem ckm_255 : ckM 255 197 = true := by decide +kernel
set_option maxRecDepth 100000 in
theorem ckm_256 : ckM 256 111 = true := by decide +kernel
set_option maxRecDepth 100000 in
theorem ckm_257 : ckM 257 280 = true := by decide +kernel
set_option maxRecDepth 100000 in
theorem ckm_258 : ckM 258 290 = true := by decide +kernel
set_option maxRecDepth 100000 in
theorem ckm_259 : ckM 259 41 = true := by decide +kernel
set_option maxRecDepth 100000 in
theorem ckm_260 : ckM 260 154 = true := by decide +kernel
set_option maxRecDepth 100000 in
theorem ckm_261 : ckM 261 168 = true := by decide +kernel
set_option maxRecDepth 100000 in
theorem ckm_262 : ckM 262 36 = true := by decide +kernel
set_option maxRecDepth 100000 in
theorem ckm_263 : ckM 263 119 = true := by decide +kernel
set_option maxRecDepth 100000 in
theorem ckm_264 : ckM 264 119 = true := by decide +kernel
set_option maxRecDepth 100000 in
theorem ckm_265 : ckM 265 53 = true := by decide +kernel
set_option maxRecDepth 100000 in
theorem ckm_266 : ckM 266 89 = true := by decide +kernel
