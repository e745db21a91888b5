set_option maxRecDepth 20000 in
theorem cm_1 : MOK 1 := ⟨rfl, by decide +kernel⟩
set_option maxRecDepth 20000 in
theorem cm_2 : MOK 2 := ⟨rfl, by decide +kernel⟩
set_option maxRecDepth 20000 in
theorem cm_3 : MOK 3 := ⟨rfl, by decide +kernel⟩
set_option maxRecDepth 20000 in
theorem cm_4 : MOK 4 := ⟨rfl, by decide +kernel⟩
set_option maxRecDepth 20000 in
theorem cm_5 : MOK 5 := ⟨rfl, by decide +kernel⟩
set_option maxRecDepth 20000 in
theorem cm_6 : MOK 6 := ⟨rfl, by decide +kernel⟩
set_option maxRecDepth 20000 in
theorem cm_7 : MOK 7 := ⟨rfl, by decide +kernel⟩
set_option maxRecDepth 20000 in
theorem cm_8 : MOK 8 := ⟨rfl, by decide +kernel⟩
set_option maxRecDepth 20000 in
theorem cm_9 : MOK 9 := ⟨rfl, by decide +kernel⟩
set_option maxRecDepth 20000 in
theorem cm_10 : MOK 10 := ⟨rfl, by decide +kernel⟩
set_option maxRecDepth 20000 in
theorem cm_11 : MOK 11 := ⟨rfl, by decide +kernel⟩
set_option maxRecDepth 20000 in
theorem cm_12 : MOK 12 := ⟨rfl, by decide +kernel⟩
set_option maxRecDepth 20000 in
theorem cm_13 : MOK 13 := ⟨rfl, by decide +kernel⟩
set_option maxRecDepth 20000 in
theorem cm_14 : MOK 14 := ⟨rfl, by decide +kernel⟩
set_option maxRecDepth 20000 in
theorem cm_15 : MOK 15 := ⟨rfl, by decide +kernel⟩
set_option maxRecDepth 20000 in
theorem cm_16 : MOK 16 := ⟨rfl, by decide +kernel⟩
set_option maxRecDepth 20000 in
theorem cm_17 : MOK 17 := ⟨rfl, by decide +kernel⟩
set_option maxRecDepth 20000 in
theorem cm_18 : MOK 18 := ⟨rfl, by decide +kernel⟩
set_option maxRecDepth 20000 in
theorem cm_19 : MOK 19 := ⟨rfl, by decide +kernel⟩
set_option maxRecDepth 20000 in
theorem cm_20 : MOK 20 := ⟨rfl, by decide +kernel⟩
set_option maxRecDepth 20000 in
theorem cm_21 : MOK 21 := ⟨rfl, by decide +kernel⟩
set_option maxRecDepth 20000 in
theorem cm_22 : MOK 22 := ⟨rfl, by decide +kernel⟩
set_option maxRecDepth 20000 in
theorem cm_23 : MOK 23 := ⟨rfl, by decide +kernel⟩
set_option maxRecDepth 20000 in
theorem cm_24 : MOK 24 := ⟨rfl, by decide +kernel⟩
set_option maxRecDepth 20000 in
theorem cm_25 : MOK 25 := ⟨rfl, by decide +kernel⟩
set_option maxRecDepth 20000 in
theorem cm_26 : MOK 26 := ⟨rfl, by decide +kernel⟩
set_option maxRecDepth 20000 in
theorem cm_27 : MOK 27 := ⟨rfl, by decide +kernel⟩
set_option maxRecDepth 20000 in
theorem cm_28 : MOK 28 := ⟨rfl, by decide +kernel⟩
set_option maxRecDepth 20000 in
theorem cm_29 : MOK 29 := ⟨rfl, by decide +kernel⟩
set_option maxRecDepth 20000 in
theorem cm_30 : MOK 30 := ⟨rfl, by decide +kernel⟩
set_option maxRecDepth 20000 in
theorem cm_31 : MOK 31 := ⟨rfl, by decide +kernel⟩
set_option maxRecDepth 20000 in
theorem cm_32 : MOK 32 := ⟨rfl, by decide +kernel⟩
set_option maxRecDepth 20000 in
theorem cm_33 : MOK 33 := ⟨rfl, by decide +kernel⟩
set_option maxRecDepth 20000 in
theorem cm_34 : MOK 34 := ⟨rfl, by decide +kernel⟩
set_option maxRecDepth 20000 in
theorem cm_35 : MOK 35 := ⟨rfl, by decide +kernel⟩
set_option maxRecDepth 20000 in
theorem cm_36 : MOK 36 := ⟨rfl, by decide +kernel⟩
set_option maxRecDepth 20000 in
theorem cm_37 : MOK 37 := ⟨rfl, by decide +kernel⟩
set_option maxRecDepth 20000 in
theorem cm_38 : MOK 38 := ⟨rfl, by decide +kernel⟩
set_option maxRecDepth 20000 in
theorem cm_39 : MOK 39 := ⟨rfl, by decide +kernel⟩
set_option maxRecDepth 20000 in
theorem cm_40 : MOK 40 := ⟨rfl, by decide +kernel⟩
set_option maxRecDepth 20000 in
theorem cm_41 : MOK 41 := ⟨rfl, by decide +kernel⟩
set_option maxRecDepth 20000 in
theorem cm_42 : MOK 42 := ⟨rfl, by decide +kernel⟩
set_option maxRecDepth 20000 in
theorem cm_43 : MOK 43 := ⟨rfl, by decide +kernel⟩
set_option maxRecDepth 20000 in
theorem cm_44 : MOK 44 := ⟨rfl, by decide +kernel⟩
set_option maxRecDepth 20000 in
theorem cm_45 : MOK 45 := ⟨rfl, by decide +kernel⟩
set_option maxRecDepth 20000 in
theorem cm_46 : MOK 46 := ⟨rfl, by decide +kernel⟩
set_option maxRecDepth 20000 in
theorem cm_47 : MOK 47 := ⟨rfl, by decide +kernel⟩
set_option maxRecDepth 20000 in
theorem cm_48 : MOK 48 := ⟨rfl, by decide +kernel⟩
set_option maxRecDepth 20000 in
theorem cm_49 : MOK 49 := ⟨rfl, by decide +kernel⟩
set_option maxRecDepth 20000 in
theorem cm_50 : MOK 50 := ⟨rfl, by decide +kernel⟩
set_option maxRecDepth 20000 in
theorem cm_51 : MOK 51 := ⟨rfl, by decide +kernel⟩
set_option maxRecDepth 20000 in
theorem cm_52 : MOK 52 := ⟨rfl, by decide +kernel⟩
set_option maxRecDepth 20000 in
theorem cm_53 : MOK 53 := ⟨rfl, by decide +kernel⟩
set_option maxRecDepth 20000 in
theorem cm_54 : MOK 54 := ⟨rfl, by decide +kernel⟩
set_option maxRecDepth 20000 in
theorem cm_55 : MOK 55 := ⟨rfl, by decide +kernel⟩
set_option maxRecDepth 20000 in
theorem cm_56 : MOK 56 := ⟨rfl, by decide +kernel⟩
set_option maxRecDepth 20000 in
theorem cm_57 : MOK 57 := ⟨rfl, by decide +kernel⟩
set_option maxRecDepth 20000 in
theorem cm_58 : MOK 58 := ⟨rfl, by decide +kernel⟩
set_option maxRecDepth 20000 in
theorem cm_59 : MOK 59 := ⟨rfl, by decide +kernel⟩
set_option maxRecDepth 20000 in
theorem cm_60 : MOK 60 := ⟨rfl, by decide +kernel⟩
set_option maxRecDepth 20000 in
theorem cm_61 : MOK 61 := ⟨rfl, by decide +kernel⟩
set_option maxRecDepth 20000 in
theorem cm_62 : MOK 62 := ⟨rfl, by decide +kernel⟩
set_option maxRecDepth 20000 in
theorem cm_63 : MOK 63 := ⟨rfl, by decide +kernel⟩
set_option maxRecDepth 20000 in
theorem cm_64 : MOK 64 := ⟨rfl, by decide +kernel⟩
set_option maxRecDepth 20000 in
theorem cm_65 : MOK 65 := ⟨rfl, by decide +kernel⟩
set_option maxRecDepth 20000 in
theorem cm_66 : MOK 66 := ⟨rfl, by decide +kernel⟩
set_option maxRecDepth 20000 in
theorem cm_67 : MOK 67 := ⟨rfl, by decide +kernel⟩
set_option maxRecDepth 20000 in
theorem cm_68 : MOK 68 := ⟨rfl, by decide +kernel⟩
set_option maxRecDepth 20000 in
theorem cm_69 : MOK 69 := ⟨rfl, by decide +kernel⟩
set_option maxRecDepth 20000 in
theorem cm_70 : MOK 70 := ⟨rfl, by decide +kernel⟩
set_option maxRecDepth 20000 in
theorem cm_71 : MOK 71 := ⟨rfl, by decide +kernel⟩
set_option maxRecDepth 20000 in
theorem cm_72 : MOK 72 := ⟨rfl, by decide +kernel⟩
set_option maxRecDepth 20000 in
theorem cm_73 : MOK 73 := ⟨rfl, by decide +kernel⟩
set_option maxRecDepth 20000 in
theorem cm_74 : MOK 74 := ⟨rfl, by decide +kernel⟩
set_option maxRecDepth 20000 in
theorem cm_75 : MOK 75 := ⟨rfl, by decide +kernel⟩
set_option maxRecDepth 20000 in
theorem cm_76 : MOK 76 := ⟨rfl, by decide +kernel⟩
set_option maxRecDepth 20000 in
theorem cm_77 : MOK 77 := ⟨rfl, by decide +kernel⟩
set_option maxRecDepth 20000 in
theorem cm_78 : MOK 78 := ⟨rfl, by decide +kernel⟩
set_option maxRecDepth 20000 in
theorem cm_79 : MOK 79 := ⟨rfl, by decide +kernel⟩
set_option maxRecDepth 20000 in
theorem cm_80 : MOK 80 := ⟨rfl, by decide +kernel⟩
set_option maxRecDepth 20000 in
theorem cm_81 : MOK 81 := ⟨rfl, by decide +kernel⟩
set_option maxRecDepth 20000 in
theorem cm_82 : MOK 82 := ⟨rfl, by decide +kernel⟩
set_option maxRecDepth 20000 in
theorem cm_83 : MOK 83 := ⟨rfl, by decide +kernel⟩
set_option maxRecDepth 20000 in
theorem cm_84 : MOK 84 := ⟨rfl, by decide +kernel⟩
set_option maxRecDepth 20000 in
theorem cm_85 : MOK 85 := ⟨rfl, by decide +kernel⟩
set_option maxRecDepth 20000 in
theorem cm_86 : MOK 86 := ⟨rfl, by decide +kernel⟩
set_option maxRecDepth 20000 in
theorem cm_87 : MOK 87 := ⟨rfl, by decide +kernel⟩
set_option maxRecDepth 20000 in
theorem cm_88 : MOK 88 := ⟨rfl, by decide +kernel⟩
set_option maxRecDepth 20000 in
theorem cm_89 : MOK 89 := ⟨rfl, by decide +kernel⟩
set_option maxRecDepth 20000 in
theorem cm_90 : MOK 90 := ⟨rfl, by decide +kernel⟩
set_option maxRecDepth 20000 in
theorem cm_91 : MOK 91 := ⟨rfl, by decide +kernel⟩
set_option maxRecDepth 20000 in
theorem cm_92 : MOK 92 := ⟨rfl, by decide +kernel⟩
set_option maxRecDepth 20000 in
theorem cm_93 : MOK 93 := ⟨rfl, by decide +kernel⟩
set_option maxRecDepth 20000 in
theorem cm_94 : MOK 94 := ⟨rfl, by decide +kernel⟩
set_option maxRecDepth 20000 in
theorem cm_95 : MOK 95 := ⟨rfl, by decide +kernel⟩
set_option maxRecDepth 20000 in
theorem cm_96 : MOK 96 := ⟨rfl, by decide +kernel⟩
set_option maxRecDepth 20000 in
theorem cm_97 : MOK 97 := ⟨rfl, by decide +kernel⟩
set_option maxRecDepth 20000 in
theorem cm_98 : MOK 98 := ⟨rfl, by decide +kernel⟩
set_option maxRecDepth 20000 in
theorem cm_99 : MOK 99 := ⟨rfl, by decide +kernel⟩
set_option maxRecDepth 20000 in
theorem cm_100 : MOK 100 := ⟨rfl, by decide +kernel⟩
set_option maxRecDepth 20000 in
theorem cm_101 : MOK 101 := ⟨rfl, by decide +kernel⟩
set_option maxRecDepth 20000 in
theorem cm_102 : MOK 102 := ⟨rfl, by decide +kernel⟩
set_option maxRecDepth 20000 in
theorem cm_103 : MOK 103 := ⟨rfl, by decide +kernel⟩
set_option maxRecDepth 20000 in
theorem cm_104 : MOK 104 := ⟨rfl, by decide +kernel⟩
set_option maxRecDepth 20000 in
theorem cm_105 : MOK 105 := ⟨rfl, by decide +kernel⟩
set_option maxRecDepth 20000 in
theorem cm_106 : MOK 106 := ⟨rfl, by decide +kernel⟩
set_option maxRecDepth 20000 in
theorem cm_107 : MOK 107 := ⟨rfl, by decide +kernel⟩
set_option maxRecDepth 20000 in
theorem cm_108 : MOK 108 := ⟨rfl, by decide +kernel⟩
set_option maxRecDepth 20000 in
theorem cm_109 : MOK 109 := ⟨rfl, by decide +kernel⟩
set_option maxRecDepth 20000 in
theorem cm_110 : MOK 110 := ⟨rfl, by decide +kernel⟩
set_option maxRecDepth 20000 in
theorem cm_111 : MOK 111 := ⟨rfl, by decide +kernel⟩
set_option maxRecDepth 20000 in
theorem cm_112 : MOK 112 := ⟨rfl, by decide +kernel⟩
set_option maxRecDepth 20000 in
theorem cm_113 : MOK 113 := ⟨rfl, by decide +kernel⟩
set_option maxRecDepth 20000 in
theorem cm_114 : MOK 114 := ⟨rfl, by decide +kernel⟩
set_option maxRecDepth 20000 in
theorem cm_115 : MOK 115 := ⟨rfl, by decide +kernel⟩
set_option maxRecDepth 20000 in
theorem cm_116 : MOK 116 := ⟨rfl, by decide +kernel⟩
set_option maxRecDepth 20000 in
theorem cm_117 : MOK 117 := ⟨rfl, by decide +kernel⟩
set_option maxRecDepth 20000 in
theorem cm_118 : MOK 118 := ⟨rfl, by decide +kernel⟩
set_option maxRecDepth 20000 in
theorem cm_119 : MOK 119 := ⟨rfl, by decide +kernel⟩
set_option maxRecDepth 20000 in
theorem cm_120 : MOK 120 := ⟨rfl, by decide +kernel⟩
set_option maxRecDepth 20000 in
theorem cm_121 : MOK 121 := ⟨rfl, by decide +kernel⟩
set_option maxRecDepth 20000 in
theorem cm_122 : MOK 122 := ⟨rfl, by decide +kernel⟩
set_option maxRecDepth 20000 in
theorem cm_123 : MOK 123 := ⟨rfl, by decide +kernel⟩
set_option maxRecDepth 20000 in
theorem cm_124 : MOK 124 := ⟨rfl, by decide +kernel⟩
set_option maxRecDepth 20000 in
theorem cm_125 : MOK 125 := ⟨rfl, by decide +kernel⟩
set_option maxRecDepth 20000 in
theorem cm_126 : MOK 126 := ⟨rfl, by decide +kernel⟩
set_option maxRecDepth 20000 in
theorem cm_127 : MOK 127 := ⟨rfl, by decide +kernel⟩
set_option maxRecDepth 20000 in
theorem cm_128 : MOK 128 := ⟨rfl, by decide +kernel⟩
set_option maxRecDepth 20000 in
theorem cm_129 : MOK 129 := ⟨rfl, by decide +kernel⟩
set_option maxRecDepth 20000 in
theorem cm_130 : MOK 130 := ⟨rfl, by decide +kernel⟩
set_option maxRecDepth 20000 in
theorem cm_131 : MOK 131 := ⟨rfl, by decide +kernel⟩
set_option maxRecDepth 20000 in
theorem cm_132 : MOK 132 := ⟨rfl, by decide +kernel⟩
set_option maxRecDepth 20000 in
theorem cm_133 : MOK 133 := ⟨rfl, by decide +kernel⟩
set_option maxRecDepth 20000 in
theorem cm_134 : MOK 134 := ⟨rfl, by decide +kernel⟩
set_option maxRecDepth 20000 in
theorem cm_135 : MOK 135 := ⟨rfl, by decide +kernel⟩
set_option maxRecDepth 20000 in
theorem cm_136 : MOK 136 := ⟨rfl, by decide +kernel⟩
set_option maxRecDepth 20000 in
theorem cm_137 : MOK 137 := ⟨rfl, by decide +kernel⟩
set_option maxRecDepth 20000 in
theorem cm_138 : MOK 138 := ⟨rfl, by decide +kernel⟩
set_option maxRecDepth 20000 in
theorem cm_139 : MOK 139 := ⟨rfl, by decide +kernel⟩
set_option maxRecDepth 20000 in
theorem cm_140 : MOK 140 := ⟨rfl, by decide +kernel⟩
set_option maxRecDepth 20000 in
theorem cm_141 : MOK 141 := ⟨rfl, by decide +kernel⟩
set_option maxRecDepth 20000 in
theorem cm_142 : MOK 142 := ⟨rfl, by decide +kernel⟩
set_option maxRecDepth 20000 in
theorem cm_143 : MOK 143 := ⟨rfl, by decide +kernel⟩
set_option maxRecDepth 20000 in
theorem cm_144 : MOK 144 := ⟨rfl, by decide +kernel⟩
set_option maxRecDepth 20000 in
theorem cm_145 : MOK 145 := ⟨rfl, by decide +kernel⟩
set_option maxRecDepth 20000 in
theorem cm_146 : MOK 146 := ⟨rfl, by decide +kernel⟩
set_option maxRecDepth 20000 in
theorem cm_147 : MOK 147 := ⟨rfl, by decide +kernel⟩
set_option maxRecDepth 20000 in
theorem cm_148 : MOK 148 := ⟨rfl, by decide +kernel⟩
set_option maxRecDepth 20000 in
theorem cm_149 : MOK 149 := ⟨rfl, by decide +kernel⟩
set_option maxRecDepth 20000 in
theorem cm_150 : MOK 150 := ⟨rfl, by decide +kernel⟩
set_option maxRecDepth 20000 in
theorem cm_151 : MOK 151 := ⟨rfl, by decide +kernel⟩
set_option maxRecDepth 20000 in
theorem cm_152 : MOK 152 := ⟨rfl, by decide +kernel⟩
set_option maxRecDepth 20000 in
theorem cm_153 : MOK 153 := ⟨rfl, by decide +kernel⟩
set_option maxRecDepth 20000 in
theorem cm_154 : MOK 154 := ⟨rfl, by decide +kernel⟩
set_option maxRecDepth 20000 in
theorem cm_155 : MOK 155 := ⟨rfl, by decide +kernel⟩
set_option maxRecDepth 20000 in
theorem cm_156 : MOK 156 := ⟨rfl, by decide +kernel⟩
set_option maxRecDepth 20000 in
theorem cm_157 : MOK 157 := ⟨rfl, by decide +kernel⟩
set_option maxRecDepth 20000 in
theorem cm_158 : MOK 158 := ⟨rfl, by decide +kernel⟩
set_option maxRecDepth 20000 in
theorem cm_159 : MOK 159 := ⟨rfl, by decide +kernel⟩
set_option maxRecDepth 20000 in
theorem cm_160 : MOK 160 := ⟨rfl, by decide +kernel⟩
set_option maxRecDepth 20000 in
theorem cm_161 : MOK 161 := ⟨rfl, by decide +kernel⟩
set_option maxRecDepth 20000 in
theorem cm_162 : MOK 162 := ⟨rfl, by decide +kernel⟩
set_option maxRecDepth 20000 in
theorem cm_163 : MOK 163 := ⟨rfl, by decide +kernel⟩
set_option maxRecDepth 20000 in
theorem cm_164 : MOK 164 := ⟨rfl, by decide +kernel⟩
set_option maxRecDepth 20000 in
theorem cm_165 : MOK 165 := ⟨rfl, by decide +kernel⟩
set_option maxRecDepth 20000 in
theorem cm_166 : MOK 166 := ⟨rfl, by decide +kernel⟩
set_option maxRecDepth 20000 in
theorem cm_167 : MOK 167 := ⟨rfl, by decide +kernel⟩
set_option maxRecDepth 20000 in
theorem cm_168 : MOK 168 := ⟨rfl, by decide +kernel⟩
set_option maxRecDepth 20000 in
theorem cm_169 : MOK 169 := ⟨rfl, by decide +kernel⟩
set_option maxRecDepth 20000 in
theorem cm_170 : MOK 170 := ⟨rfl, by decide +kernel⟩
set_option maxRecDepth 20000 in
theorem cm_171 : MOK 171 := ⟨rfl, by decide +kernel⟩
set_option maxRecDepth 20000 in
theorem cm_172 : MOK 172 := ⟨rfl, by decide +kernel⟩
set_option maxRecDepth 20000 in
theorem cm_173 : MOK 173 := ⟨rfl, by decide +kernel⟩
set_option maxRecDepth 20000 in
theorem cm_174 : MOK 174 := ⟨rfl, by decide +kernel⟩
set_option maxRecDepth 20000 in
theorem cm_175 : MOK 175 := ⟨rfl, by decide +kernel⟩
set_option maxRecDepth 20000 in
theorem cm_176 : MOK 176 := ⟨rfl, by decide +kernel⟩
set_option maxRecDepth 20000 in
theorem cm_177 : MOK 177 := ⟨rfl, by decide +kernel⟩
set_option maxRecDepth 20000 in
theorem cm_178 : MOK 178 := ⟨rfl, by decide +kernel⟩
set_option maxRecDepth 20000 in
theorem cm_179 : MOK 179 := ⟨rfl, by decide +kernel⟩
set_option maxRecDepth 20000 in
theorem cm_180 : MOK 180 := ⟨rfl, by decide +kernel⟩
set_option maxRecDepth 20000 in
theorem cm_181 : MOK 181 := ⟨rfl, by decide +kernel⟩
set_option maxRecDepth 20000 in
theorem cm_182 : MOK 182 := ⟨rfl, by decide +kernel⟩
set_option maxRecDepth 20000 in
theorem cm_183 : MOK 183 := ⟨rfl, by decide +kernel⟩
set_option maxRecDepth 20000 in
theorem cm_184 : MOK 184 := ⟨rfl, by decide +kernel⟩
set_option maxRecDepth 20000 in
theorem cm_185 : MOK 185 := ⟨rfl, by decide +kernel⟩
set_option maxRecDepth 20000 in
theorem cm_186 : MOK 186 := ⟨rfl, by decide +kernel⟩
set_option maxRecDepth 20000 in
theorem cm_187 : MOK 187 := ⟨rfl, by decide +kernel⟩
set_option maxRecDepth 20000 in
theorem cm_188 : MOK 188 := ⟨rfl, by decide +kernel⟩
set_option maxRecDepth 20000 in
theorem cm_189 : MOK 189 := ⟨rfl, by decide +kernel⟩
