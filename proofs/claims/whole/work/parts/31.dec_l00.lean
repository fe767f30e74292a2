theorem d_La_law_0 : decode b_La_law 0 = .ok (.new 8, 3) := by decide +kernel
theorem d_La_law_3 : decode b_La_law 3 = .ok (.dup, 1) := by decide +kernel
theorem d_La_law_4 : decode b_La_law 4 = .ok (.aload_n 0, 1) := by decide +kernel
theorem d_La_law_5 : decode b_La_law 5 = .ok (.iconst 0, 1) := by decide +kernel
theorem d_La_law_6 : decode b_La_law 6 = .ok (.invokestatic 46, 3) := by decide +kernel
theorem d_La_law_9 : decode b_La_law 9 = .ok (.invokespecial 52, 3) := by decide +kernel
theorem d_La_law_12 : decode b_La_law 12 = .ok (.astore_n 1, 1) := by decide +kernel
theorem d_La_law_13 : decode b_La_law 13 = .ok (.new 55, 3) := by decide +kernel
theorem d_La_law_16 : decode b_La_law 16 = .ok (.dup, 1) := by decide +kernel
theorem d_La_law_17 : decode b_La_law 17 = .ok (.aload_n 0, 1) := by decide +kernel
theorem d_La_law_18 : decode b_La_law 18 = .ok (.iconst 0, 1) := by decide +kernel
theorem d_La_law_19 : decode b_La_law 19 = .ok (.invokestatic 46, 3) := by decide +kernel
theorem d_La_law_22 : decode b_La_law 22 = .ok (.invokespecial 57, 3) := by decide +kernel
theorem d_La_law_25 : decode b_La_law 25 = .ok (.astore_n 2, 1) := by decide +kernel
theorem d_La_law_26 : decode b_La_law 26 = .ok (.iconst 1, 1) := by decide +kernel
theorem d_La_law_27 : decode b_La_law 27 = .ok (.newarray .long, 2) := by decide +kernel
theorem d_La_law_29 : decode b_La_law 29 = .ok (.astore_n 3, 1) := by decide +kernel
theorem d_La_law_30 : decode b_La_law 30 = .ok (.iconst 1, 1) := by decide +kernel
theorem d_La_law_31 : decode b_La_law 31 = .ok (.istore 4, 2) := by decide +kernel
theorem d_La_law_33 : decode b_La_law 33 = .ok (.iload 4, 2) := by decide +kernel
theorem d_La_law_35 : decode b_La_law 35 = .ok (.aload_n 0, 1) := by decide +kernel
theorem d_La_law_36 : decode b_La_law 36 = .ok (.arraylength, 1) := by decide +kernel
theorem d_La_law_37 : decode b_La_law 37 = .ok (.iconst 3, 1) := by decide +kernel
theorem d_La_law_38 : decode b_La_law 38 = .ok (.isub, 1) := by decide +kernel
theorem d_La_law_39 : decode b_La_law 39 = .ok (.if_icmp .gt 696, 3) := by decide +kernel
theorem d_La_law_42 : decode b_La_law 42 = .ok (.aload_n 0, 1) := by decide +kernel
theorem d_La_law_43 : decode b_La_law 43 = .ok (.iload 4, 2) := by decide +kernel
theorem d_La_law_45 : decode b_La_law 45 = .ok (.iaload, 1) := by decide +kernel
theorem d_La_law_46 : decode b_La_law 46 = .ok (.bipush 15, 2) := by decide +kernel
theorem d_La_law_48 : decode b_La_law 48 = .ok (.iand, 1) := by decide +kernel
theorem d_La_law_49 : decode b_La_law 49 = .ok (.tableswitch 680 0 12 #[67, 135, 179, 235, 298, 354, 422, 490, 546, 590, 615, 656, 669], 67) := by decide +kernel
theorem d_La_law_116 : decode b_La_law 116 = .ok (.aload_n 1, 1) := by decide +kernel
theorem d_La_law_117 : decode b_La_law 117 = .ok (.aload_n 0, 1) := by decide +kernel
theorem d_La_law_118 : decode b_La_law 118 = .ok (.iload 4, 2) := by decide +kernel
theorem d_La_law_120 : decode b_La_law 120 = .ok (.iconst 1, 1) := by decide +kernel
theorem d_La_law_121 : decode b_La_law 121 = .ok (.iadd, 1) := by decide +kernel
theorem d_La_law_122 : decode b_La_law 122 = .ok (.iaload, 1) := by decide +kernel
theorem d_La_law_123 : decode b_La_law 123 = .ok (.aload_n 0, 1) := by decide +kernel
theorem d_La_law_124 : decode b_La_law 124 = .ok (.iload 4, 2) := by decide +kernel
theorem d_La_law_126 : decode b_La_law 126 = .ok (.iconst 2, 1) := by decide +kernel
theorem d_La_law_127 : decode b_La_law 127 = .ok (.iadd, 1) := by decide +kernel
theorem d_La_law_128 : decode b_La_law 128 = .ok (.iaload, 1) := by decide +kernel
theorem d_La_law_129 : decode b_La_law 129 = .ok (.aload_n 3, 1) := by decide +kernel
theorem d_La_law_130 : decode b_La_law 130 = .ok (.invokestatic 58, 3) := by decide +kernel
theorem d_La_law_133 : decode b_La_law 133 = .ok (.istore 5, 2) := by decide +kernel
theorem d_La_law_135 : decode b_La_law 135 = .ok (.aload_n 2, 1) := by decide +kernel
theorem d_La_law_136 : decode b_La_law 136 = .ok (.aload_n 0, 1) := by decide +kernel
theorem d_La_law_137 : decode b_La_law 137 = .ok (.iload 4, 2) := by decide +kernel
theorem d_La_law_139 : decode b_La_law 139 = .ok (.iconst 1, 1) := by decide +kernel
theorem d_La_law_140 : decode b_La_law 140 = .ok (.iadd, 1) := by decide +kernel
theorem d_La_law_141 : decode b_La_law 141 = .ok (.iaload, 1) := by decide +kernel
theorem d_La_law_142 : decode b_La_law 142 = .ok (.aload_n 0, 1) := by decide +kernel
theorem d_La_law_143 : decode b_La_law 143 = .ok (.iload 4, 2) := by decide +kernel
theorem d_La_law_145 : decode b_La_law 145 = .ok (.iconst 2, 1) := by decide +kernel
theorem d_La_law_146 : decode b_La_law 146 = .ok (.iadd, 1) := by decide +kernel
theorem d_La_law_147 : decode b_La_law 147 = .ok (.iaload, 1) := by decide +kernel
theorem d_La_law_148 : decode b_La_law 148 = .ok (.invokevirtual 61, 3) := by decide +kernel
theorem d_La_law_151 : decode b_La_law 151 = .ok (.istore 6, 2) := by decide +kernel
theorem d_La_law_153 : decode b_La_law 153 = .ok (.aload_n 2, 1) := by decide +kernel
theorem d_La_law_154 : decode b_La_law 154 = .ok (.invokevirtual 62, 3) := by decide +kernel
theorem d_La_law_157 : decode b_La_law 157 = .ok (.iload 5, 2) := by decide +kernel
theorem d_La_law_159 : decode b_La_law 159 = .ok (.if_icmp .eq 5, 3) := by decide +kernel
theorem d_La_law_162 : decode b_La_law 162 = .ok (.iconst 0, 1) := by decide +kernel
theorem d_La_law_163 : decode b_La_law 163 = .ok (.ireturn, 1) := by decide +kernel
theorem d_La_law_164 : decode b_La_law 164 = .ok (.iload 5, 2) := by decide +kernel
theorem d_La_law_166 : decode b_La_law 166 = .ok (.ifCond .ne 15, 3) := by decide +kernel
theorem d_La_law_169 : decode b_La_law 169 = .ok (.aload_n 3, 1) := by decide +kernel
theorem d_La_law_170 : decode b_La_law 170 = .ok (.iconst 0, 1) := by decide +kernel
theorem d_La_law_171 : decode b_La_law 171 = .ok (.laload, 1) := by decide +kernel
theorem d_La_law_172 : decode b_La_law 172 = .ok (.iload 6, 2) := by decide +kernel
theorem d_La_law_174 : decode b_La_law 174 = .ok (.i2l, 1) := by decide +kernel
theorem d_La_law_175 : decode b_La_law 175 = .ok (.lcmp, 1) := by decide +kernel
theorem d_La_law_176 : decode b_La_law 176 = .ok (.ifCond .eq 5, 3) := by decide +kernel
theorem d_La_law_179 : decode b_La_law 179 = .ok (.iconst 0, 1) := by decide +kernel
theorem d_La_law_180 : decode b_La_law 180 = .ok (.ireturn, 1) := by decide +kernel
theorem d_La_law_181 : decode b_La_law 181 = .ok (.goto 548, 3) := by decide +kernel
theorem d_La_law_184 : decode b_La_law 184 = .ok (.aload_n 1, 1) := by decide +kernel
theorem d_La_law_185 : decode b_La_law 185 = .ok (.aload_n 3, 1) := by decide +kernel
theorem d_La_law_186 : decode b_La_law 186 = .ok (.invokestatic 65, 3) := by decide +kernel
theorem d_La_law_189 : decode b_La_law 189 = .ok (.istore 5, 2) := by decide +kernel
theorem d_La_law_191 : decode b_La_law 191 = .ok (.aload_n 2, 1) := by decide +kernel
theorem d_La_law_192 : decode b_La_law 192 = .ok (.invokevirtual 68, 3) := by decide +kernel
theorem d_La_law_195 : decode b_La_law 195 = .ok (.istore 6, 2) := by decide +kernel
theorem d_La_law_197 : decode b_La_law 197 = .ok (.aload_n 2, 1) := by decide +kernel
theorem d_La_law_198 : decode b_La_law 198 = .ok (.invokevirtual 62, 3) := by decide +kernel
theorem d_La_law_201 : decode b_La_law 201 = .ok (.iload 5, 2) := by decide +kernel
theorem d_La_law_203 : decode b_La_law 203 = .ok (.if_icmp .eq 5, 3) := by decide +kernel
theorem d_La_law_206 : decode b_La_law 206 = .ok (.iconst 0, 1) := by decide +kernel
theorem d_La_law_207 : decode b_La_law 207 = .ok (.ireturn, 1) := by decide +kernel
theorem d_La_law_208 : decode b_La_law 208 = .ok (.iload 5, 2) := by decide +kernel
theorem d_La_law_210 : decode b_La_law 210 = .ok (.ifCond .ne 15, 3) := by decide +kernel
theorem d_La_law_213 : decode b_La_law 213 = .ok (.aload_n 3, 1) := by decide +kernel
theorem d_La_law_214 : decode b_La_law 214 = .ok (.iconst 0, 1) := by decide +kernel
theorem d_La_law_215 : decode b_La_law 215 = .ok (.laload, 1) := by decide +kernel
theorem d_La_law_216 : decode b_La_law 216 = .ok (.iload 6, 2) := by decide +kernel
theorem d_La_law_218 : decode b_La_law 218 = .ok (.i2l, 1) := by decide +kernel
theorem d_La_law_219 : decode b_La_law 219 = .ok (.lcmp, 1) := by decide +kernel
theorem d_La_law_220 : decode b_La_law 220 = .ok (.ifCond .eq 5, 3) := by decide +kernel
theorem d_La_law_223 : decode b_La_law 223 = .ok (.iconst 0, 1) := by decide +kernel
theorem d_La_law_224 : decode b_La_law 224 = .ok (.ireturn, 1) := by decide +kernel
theorem d_La_law_225 : decode b_La_law 225 = .ok (.goto 504, 3) := by decide +kernel
theorem d_La_law_228 : decode b_La_law 228 = .ok (.aload_n 1, 1) := by decide +kernel
theorem d_La_law_229 : decode b_La_law 229 = .ok (.aload_n 0, 1) := by decide +kernel
theorem d_La_law_230 : decode b_La_law 230 = .ok (.iload 4, 2) := by decide +kernel
theorem d_La_law_232 : decode b_La_law 232 = .ok (.iconst 1, 1) := by decide +kernel
theorem d_La_law_233 : decode b_La_law 233 = .ok (.iadd, 1) := by decide +kernel
theorem d_La_law_234 : decode b_La_law 234 = .ok (.iaload, 1) := by decide +kernel
theorem d_La_law_235 : decode b_La_law 235 = .ok (.aload_n 3, 1) := by decide +kernel
theorem d_La_law_236 : decode b_La_law 236 = .ok (.invokestatic 69, 3) := by decide +kernel
theorem d_La_law_239 : decode b_La_law 239 = .ok (.istore 5, 2) := by decide +kernel
