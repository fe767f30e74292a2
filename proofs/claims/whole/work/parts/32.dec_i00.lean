theorem d_M_init_0 : decode b_M_init 0 = .ok (.aload_n 0, 1) := by decide +kernel
theorem d_M_init_1 : decode b_M_init 1 = .ok (.invokespecial 1, 3) := by decide +kernel
theorem d_M_init_4 : decode b_M_init 4 = .ok (.aload_n 0, 1) := by decide +kernel
theorem d_M_init_5 : decode b_M_init 5 = .ok (.bipush 47, 2) := by decide +kernel
theorem d_M_init_7 : decode b_M_init 7 = .ok (.newarray .int, 2) := by decide +kernel
theorem d_M_init_9 : decode b_M_init 9 = .ok (.dup, 1) := by decide +kernel
theorem d_M_init_10 : decode b_M_init 10 = .ok (.iconst 0, 1) := by decide +kernel
theorem d_M_init_11 : decode b_M_init 11 = .ok (.sipush 22017, 3) := by decide +kernel
theorem d_M_init_14 : decode b_M_init 14 = .ok (.iastore, 1) := by decide +kernel
theorem d_M_init_15 : decode b_M_init 15 = .ok (.dup, 1) := by decide +kernel
theorem d_M_init_16 : decode b_M_init 16 = .ok (.iconst 1, 1) := by decide +kernel
theorem d_M_init_17 : decode b_M_init 17 = .ok (.sipush 13313, 3) := by decide +kernel
theorem d_M_init_20 : decode b_M_init 20 = .ok (.iastore, 1) := by decide +kernel
theorem d_M_init_21 : decode b_M_init 21 = .ok (.dup, 1) := by decide +kernel
theorem d_M_init_22 : decode b_M_init 22 = .ok (.iconst 2, 1) := by decide +kernel
theorem d_M_init_23 : decode b_M_init 23 = .ok (.sipush 6145, 3) := by decide +kernel
theorem d_M_init_26 : decode b_M_init 26 = .ok (.iastore, 1) := by decide +kernel
theorem d_M_init_27 : decode b_M_init 27 = .ok (.dup, 1) := by decide +kernel
theorem d_M_init_28 : decode b_M_init 28 = .ok (.iconst 3, 1) := by decide +kernel
theorem d_M_init_29 : decode b_M_init 29 = .ok (.sipush 2753, 3) := by decide +kernel
theorem d_M_init_32 : decode b_M_init 32 = .ok (.iastore, 1) := by decide +kernel
theorem d_M_init_33 : decode b_M_init 33 = .ok (.dup, 1) := by decide +kernel
theorem d_M_init_34 : decode b_M_init 34 = .ok (.iconst 4, 1) := by decide +kernel
theorem d_M_init_35 : decode b_M_init 35 = .ok (.sipush 1313, 3) := by decide +kernel
theorem d_M_init_38 : decode b_M_init 38 = .ok (.iastore, 1) := by decide +kernel
theorem d_M_init_39 : decode b_M_init 39 = .ok (.dup, 1) := by decide +kernel
theorem d_M_init_40 : decode b_M_init 40 = .ok (.iconst 5, 1) := by decide +kernel
theorem d_M_init_41 : decode b_M_init 41 = .ok (.sipush 545, 3) := by decide +kernel
theorem d_M_init_44 : decode b_M_init 44 = .ok (.iastore, 1) := by decide +kernel
theorem d_M_init_45 : decode b_M_init 45 = .ok (.dup, 1) := by decide +kernel
theorem d_M_init_46 : decode b_M_init 46 = .ok (.bipush 6, 2) := by decide +kernel
theorem d_M_init_48 : decode b_M_init 48 = .ok (.sipush 22017, 3) := by decide +kernel
theorem d_M_init_51 : decode b_M_init 51 = .ok (.iastore, 1) := by decide +kernel
theorem d_M_init_52 : decode b_M_init 52 = .ok (.dup, 1) := by decide +kernel
theorem d_M_init_53 : decode b_M_init 53 = .ok (.bipush 7, 2) := by decide +kernel
theorem d_M_init_55 : decode b_M_init 55 = .ok (.sipush 21505, 3) := by decide +kernel
theorem d_M_init_58 : decode b_M_init 58 = .ok (.iastore, 1) := by decide +kernel
theorem d_M_init_59 : decode b_M_init 59 = .ok (.dup, 1) := by decide +kernel
theorem d_M_init_60 : decode b_M_init 60 = .ok (.bipush 8, 2) := by decide +kernel
theorem d_M_init_62 : decode b_M_init 62 = .ok (.sipush 18433, 3) := by decide +kernel
theorem d_M_init_65 : decode b_M_init 65 = .ok (.iastore, 1) := by decide +kernel
theorem d_M_init_66 : decode b_M_init 66 = .ok (.dup, 1) := by decide +kernel
theorem d_M_init_67 : decode b_M_init 67 = .ok (.bipush 9, 2) := by decide +kernel
theorem d_M_init_69 : decode b_M_init 69 = .ok (.sipush 14337, 3) := by decide +kernel
theorem d_M_init_72 : decode b_M_init 72 = .ok (.iastore, 1) := by decide +kernel
theorem d_M_init_73 : decode b_M_init 73 = .ok (.dup, 1) := by decide +kernel
theorem d_M_init_74 : decode b_M_init 74 = .ok (.bipush 10, 2) := by decide +kernel
theorem d_M_init_76 : decode b_M_init 76 = .ok (.sipush 12289, 3) := by decide +kernel
theorem d_M_init_79 : decode b_M_init 79 = .ok (.iastore, 1) := by decide +kernel
theorem d_M_init_80 : decode b_M_init 80 = .ok (.dup, 1) := by decide +kernel
theorem d_M_init_81 : decode b_M_init 81 = .ok (.bipush 11, 2) := by decide +kernel
theorem d_M_init_83 : decode b_M_init 83 = .ok (.sipush 9217, 3) := by decide +kernel
theorem d_M_init_86 : decode b_M_init 86 = .ok (.iastore, 1) := by decide +kernel
theorem d_M_init_87 : decode b_M_init 87 = .ok (.dup, 1) := by decide +kernel
theorem d_M_init_88 : decode b_M_init 88 = .ok (.bipush 12, 2) := by decide +kernel
theorem d_M_init_90 : decode b_M_init 90 = .ok (.sipush 7169, 3) := by decide +kernel
theorem d_M_init_93 : decode b_M_init 93 = .ok (.iastore, 1) := by decide +kernel
theorem d_M_init_94 : decode b_M_init 94 = .ok (.dup, 1) := by decide +kernel
theorem d_M_init_95 : decode b_M_init 95 = .ok (.bipush 13, 2) := by decide +kernel
theorem d_M_init_97 : decode b_M_init 97 = .ok (.sipush 5633, 3) := by decide +kernel
theorem d_M_init_100 : decode b_M_init 100 = .ok (.iastore, 1) := by decide +kernel
theorem d_M_init_101 : decode b_M_init 101 = .ok (.dup, 1) := by decide +kernel
theorem d_M_init_102 : decode b_M_init 102 = .ok (.bipush 14, 2) := by decide +kernel
theorem d_M_init_104 : decode b_M_init 104 = .ok (.sipush 22017, 3) := by decide +kernel
theorem d_M_init_107 : decode b_M_init 107 = .ok (.iastore, 1) := by decide +kernel
theorem d_M_init_108 : decode b_M_init 108 = .ok (.dup, 1) := by decide +kernel
theorem d_M_init_109 : decode b_M_init 109 = .ok (.bipush 15, 2) := by decide +kernel
theorem d_M_init_111 : decode b_M_init 111 = .ok (.sipush 21505, 3) := by decide +kernel
theorem d_M_init_114 : decode b_M_init 114 = .ok (.iastore, 1) := by decide +kernel
theorem d_M_init_115 : decode b_M_init 115 = .ok (.dup, 1) := by decide +kernel
theorem d_M_init_116 : decode b_M_init 116 = .ok (.bipush 16, 2) := by decide +kernel
theorem d_M_init_118 : decode b_M_init 118 = .ok (.sipush 20737, 3) := by decide +kernel
theorem d_M_init_121 : decode b_M_init 121 = .ok (.iastore, 1) := by decide +kernel
theorem d_M_init_122 : decode b_M_init 122 = .ok (.dup, 1) := by decide +kernel
theorem d_M_init_123 : decode b_M_init 123 = .ok (.bipush 17, 2) := by decide +kernel
theorem d_M_init_125 : decode b_M_init 125 = .ok (.sipush 18433, 3) := by decide +kernel
theorem d_M_init_128 : decode b_M_init 128 = .ok (.iastore, 1) := by decide +kernel
theorem d_M_init_129 : decode b_M_init 129 = .ok (.dup, 1) := by decide +kernel
theorem d_M_init_130 : decode b_M_init 130 = .ok (.bipush 18, 2) := by decide +kernel
theorem d_M_init_132 : decode b_M_init 132 = .ok (.sipush 14337, 3) := by decide +kernel
theorem d_M_init_135 : decode b_M_init 135 = .ok (.iastore, 1) := by decide +kernel
theorem d_M_init_136 : decode b_M_init 136 = .ok (.dup, 1) := by decide +kernel
theorem d_M_init_137 : decode b_M_init 137 = .ok (.bipush 19, 2) := by decide +kernel
theorem d_M_init_139 : decode b_M_init 139 = .ok (.sipush 13313, 3) := by decide +kernel
theorem d_M_init_142 : decode b_M_init 142 = .ok (.iastore, 1) := by decide +kernel
theorem d_M_init_143 : decode b_M_init 143 = .ok (.dup, 1) := by decide +kernel
theorem d_M_init_144 : decode b_M_init 144 = .ok (.bipush 20, 2) := by decide +kernel
theorem d_M_init_146 : decode b_M_init 146 = .ok (.sipush 12289, 3) := by decide +kernel
theorem d_M_init_149 : decode b_M_init 149 = .ok (.iastore, 1) := by decide +kernel
theorem d_M_init_150 : decode b_M_init 150 = .ok (.dup, 1) := by decide +kernel
theorem d_M_init_151 : decode b_M_init 151 = .ok (.bipush 21, 2) := by decide +kernel
theorem d_M_init_153 : decode b_M_init 153 = .ok (.sipush 10241, 3) := by decide +kernel
theorem d_M_init_156 : decode b_M_init 156 = .ok (.iastore, 1) := by decide +kernel
theorem d_M_init_157 : decode b_M_init 157 = .ok (.dup, 1) := by decide +kernel
theorem d_M_init_158 : decode b_M_init 158 = .ok (.bipush 22, 2) := by decide +kernel
theorem d_M_init_160 : decode b_M_init 160 = .ok (.sipush 9217, 3) := by decide +kernel
theorem d_M_init_163 : decode b_M_init 163 = .ok (.iastore, 1) := by decide +kernel
theorem d_M_init_164 : decode b_M_init 164 = .ok (.dup, 1) := by decide +kernel
theorem d_M_init_165 : decode b_M_init 165 = .ok (.bipush 23, 2) := by decide +kernel
theorem d_M_init_167 : decode b_M_init 167 = .ok (.sipush 8705, 3) := by decide +kernel
theorem d_M_init_170 : decode b_M_init 170 = .ok (.iastore, 1) := by decide +kernel
theorem d_M_init_171 : decode b_M_init 171 = .ok (.dup, 1) := by decide +kernel
theorem d_M_init_172 : decode b_M_init 172 = .ok (.bipush 24, 2) := by decide +kernel
theorem d_M_init_174 : decode b_M_init 174 = .ok (.sipush 7169, 3) := by decide +kernel
theorem d_M_init_177 : decode b_M_init 177 = .ok (.iastore, 1) := by decide +kernel
theorem d_M_init_178 : decode b_M_init 178 = .ok (.dup, 1) := by decide +kernel
theorem d_M_init_179 : decode b_M_init 179 = .ok (.bipush 25, 2) := by decide +kernel
theorem d_M_init_181 : decode b_M_init 181 = .ok (.sipush 6145, 3) := by decide +kernel
theorem d_M_init_184 : decode b_M_init 184 = .ok (.iastore, 1) := by decide +kernel
theorem d_M_init_185 : decode b_M_init 185 = .ok (.dup, 1) := by decide +kernel
