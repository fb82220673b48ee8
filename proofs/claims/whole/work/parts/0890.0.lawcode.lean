theorem d_L_law_0 : decode cL_law 0 = .ok (.new 8, 3) := by decide +kernel
theorem d_L_law_3 : decode cL_law 3 = .ok (.dup, 1) := by decide +kernel
theorem d_L_law_4 : decode cL_law 4 = .ok (.invokespecial 70, 3) := by decide +kernel
theorem d_L_law_7 : decode cL_law 7 = .ok (.astore_n 1, 1) := by decide +kernel
theorem d_L_law_8 : decode cL_law 8 = .ok (.new 71, 3) := by decide +kernel
theorem d_L_law_11 : decode cL_law 11 = .ok (.dup, 1) := by decide +kernel
theorem d_L_law_12 : decode cL_law 12 = .ok (.invokespecial 73, 3) := by decide +kernel
theorem d_L_law_15 : decode cL_law 15 = .ok (.astore_n 2, 1) := by decide +kernel
theorem d_L_law_16 : decode cL_law 16 = .ok (.iconst 1, 1) := by decide +kernel
theorem d_L_law_17 : decode cL_law 17 = .ok (.newarray .long, 2) := by decide +kernel
theorem d_L_law_19 : decode cL_law 19 = .ok (.astore_n 3, 1) := by decide +kernel
theorem d_L_law_20 : decode cL_law 20 = .ok (.iconst 0, 1) := by decide +kernel
theorem d_L_law_21 : decode cL_law 21 = .ok (.istore 4, 2) := by decide +kernel
theorem d_L_law_23 : decode cL_law 23 = .ok (.iload 4, 2) := by decide +kernel
theorem d_L_law_25 : decode cL_law 25 = .ok (.aload_n 0, 1) := by decide +kernel
theorem d_L_law_26 : decode cL_law 26 = .ok (.arraylength, 1) := by decide +kernel
theorem d_L_law_27 : decode cL_law 27 = .ok (.bipush 6, 2) := by decide +kernel
theorem d_L_law_29 : decode cL_law 29 = .ok (.isub, 1) := by decide +kernel
theorem d_L_law_30 : decode cL_law 30 = .ok (.if_icmp .gt 1443, 3) := by decide +kernel
theorem d_L_law_33 : decode cL_law 33 = .ok (.aload_n 0, 1) := by decide +kernel
theorem d_L_law_34 : decode cL_law 34 = .ok (.iload 4, 2) := by decide +kernel
theorem d_L_law_36 : decode cL_law 36 = .ok (.iaload, 1) := by decide +kernel
theorem d_L_law_37 : decode cL_law 37 = .ok (.bipush 31, 2) := by decide +kernel
theorem d_L_law_39 : decode cL_law 39 = .ok (.iand, 1) := by decide +kernel
theorem d_L_law_40 : decode cL_law 40 = .ok (.tableswitch 1427 0 22 #[108, 181, 237, 250, 330, 398, 466, 479, 535, 615, 671, 739, 807, 875, 943, 1011, 1024, 1092, 1160, 1252, 1320, 1388, 1402], 108) := by decide +kernel
theorem d_L_law_148 : decode cL_law 148 = .ok (.aload_n 1, 1) := by decide +kernel
theorem d_L_law_149 : decode cL_law 149 = .ok (.aload_n 0, 1) := by decide +kernel
theorem d_L_law_150 : decode cL_law 150 = .ok (.iload 4, 2) := by decide +kernel
theorem d_L_law_152 : decode cL_law 152 = .ok (.iconst 1, 1) := by decide +kernel
theorem d_L_law_153 : decode cL_law 153 = .ok (.iadd, 1) := by decide +kernel
theorem d_L_law_154 : decode cL_law 154 = .ok (.iaload, 1) := by decide +kernel
theorem d_L_law_155 : decode cL_law 155 = .ok (.aload_n 0, 1) := by decide +kernel
theorem d_L_law_156 : decode cL_law 156 = .ok (.iload 4, 2) := by decide +kernel
theorem d_L_law_158 : decode cL_law 158 = .ok (.iconst 2, 1) := by decide +kernel
theorem d_L_law_159 : decode cL_law 159 = .ok (.iadd, 1) := by decide +kernel
theorem d_L_law_160 : decode cL_law 160 = .ok (.iaload, 1) := by decide +kernel
theorem d_L_law_161 : decode cL_law 161 = .ok (.aload_n 0, 1) := by decide +kernel
theorem d_L_law_162 : decode cL_law 162 = .ok (.iload 4, 2) := by decide +kernel
theorem d_L_law_164 : decode cL_law 164 = .ok (.iconst 3, 1) := by decide +kernel
theorem d_L_law_165 : decode cL_law 165 = .ok (.iadd, 1) := by decide +kernel
theorem d_L_law_166 : decode cL_law 166 = .ok (.iaload, 1) := by decide +kernel
theorem d_L_law_167 : decode cL_law 167 = .ok (.aload_n 0, 1) := by decide +kernel
theorem d_L_law_168 : decode cL_law 168 = .ok (.iload 4, 2) := by decide +kernel
theorem d_L_law_170 : decode cL_law 170 = .ok (.iconst 4, 1) := by decide +kernel
theorem d_L_law_171 : decode cL_law 171 = .ok (.iadd, 1) := by decide +kernel
theorem d_L_law_172 : decode cL_law 172 = .ok (.iaload, 1) := by decide +kernel
theorem d_L_law_173 : decode cL_law 173 = .ok (.aload_n 0, 1) := by decide +kernel
theorem d_L_law_174 : decode cL_law 174 = .ok (.iload 4, 2) := by decide +kernel
theorem d_L_law_176 : decode cL_law 176 = .ok (.iconst 5, 1) := by decide +kernel
theorem d_L_law_177 : decode cL_law 177 = .ok (.iadd, 1) := by decide +kernel
theorem d_L_law_178 : decode cL_law 178 = .ok (.iaload, 1) := by decide +kernel
theorem d_L_law_179 : decode cL_law 179 = .ok (.invokevirtual 74, 3) := by decide +kernel
theorem d_L_law_182 : decode cL_law 182 = .ok (.aload_n 2, 1) := by decide +kernel
theorem d_L_law_183 : decode cL_law 183 = .ok (.aload_n 0, 1) := by decide +kernel
theorem d_L_law_184 : decode cL_law 184 = .ok (.iload 4, 2) := by decide +kernel
theorem d_L_law_186 : decode cL_law 186 = .ok (.iconst 1, 1) := by decide +kernel
theorem d_L_law_187 : decode cL_law 187 = .ok (.iadd, 1) := by decide +kernel
theorem d_L_law_188 : decode cL_law 188 = .ok (.iaload, 1) := by decide +kernel
theorem d_L_law_189 : decode cL_law 189 = .ok (.aload_n 0, 1) := by decide +kernel
theorem d_L_law_190 : decode cL_law 190 = .ok (.iload 4, 2) := by decide +kernel
theorem d_L_law_192 : decode cL_law 192 = .ok (.iconst 2, 1) := by decide +kernel
theorem d_L_law_193 : decode cL_law 193 = .ok (.iadd, 1) := by decide +kernel
theorem d_L_law_194 : decode cL_law 194 = .ok (.iaload, 1) := by decide +kernel
theorem d_L_law_195 : decode cL_law 195 = .ok (.aload_n 0, 1) := by decide +kernel
theorem d_L_law_196 : decode cL_law 196 = .ok (.iload 4, 2) := by decide +kernel
theorem d_L_law_198 : decode cL_law 198 = .ok (.iconst 3, 1) := by decide +kernel
theorem d_L_law_199 : decode cL_law 199 = .ok (.iadd, 1) := by decide +kernel
theorem d_L_law_200 : decode cL_law 200 = .ok (.iaload, 1) := by decide +kernel
theorem d_L_law_201 : decode cL_law 201 = .ok (.aload_n 0, 1) := by decide +kernel
theorem d_L_law_202 : decode cL_law 202 = .ok (.iload 4, 2) := by decide +kernel
theorem d_L_law_204 : decode cL_law 204 = .ok (.iconst 4, 1) := by decide +kernel
theorem d_L_law_205 : decode cL_law 205 = .ok (.iadd, 1) := by decide +kernel
theorem d_L_law_206 : decode cL_law 206 = .ok (.iaload, 1) := by decide +kernel
theorem d_L_law_207 : decode cL_law 207 = .ok (.aload_n 0, 1) := by decide +kernel
theorem d_L_law_208 : decode cL_law 208 = .ok (.iload 4, 2) := by decide +kernel
theorem d_L_law_210 : decode cL_law 210 = .ok (.iconst 5, 1) := by decide +kernel
theorem d_L_law_211 : decode cL_law 211 = .ok (.iadd, 1) := by decide +kernel
theorem d_L_law_212 : decode cL_law 212 = .ok (.iaload, 1) := by decide +kernel
theorem d_L_law_213 : decode cL_law 213 = .ok (.invokevirtual 78, 3) := by decide +kernel
theorem d_L_law_216 : decode cL_law 216 = .ok (.if_icmp .eq 1251, 3) := by decide +kernel
theorem d_L_law_219 : decode cL_law 219 = .ok (.iconst 0, 1) := by decide +kernel
theorem d_L_law_220 : decode cL_law 220 = .ok (.ireturn, 1) := by decide +kernel
theorem d_L_law_221 : decode cL_law 221 = .ok (.aload_n 1, 1) := by decide +kernel
theorem d_L_law_222 : decode cL_law 222 = .ok (.aload_n 0, 1) := by decide +kernel
theorem d_L_law_223 : decode cL_law 223 = .ok (.iload 4, 2) := by decide +kernel
theorem d_L_law_225 : decode cL_law 225 = .ok (.iconst 1, 1) := by decide +kernel
theorem d_L_law_226 : decode cL_law 226 = .ok (.iadd, 1) := by decide +kernel
theorem d_L_law_227 : decode cL_law 227 = .ok (.iaload, 1) := by decide +kernel
theorem d_L_law_228 : decode cL_law 228 = .ok (.aload_n 3, 1) := by decide +kernel
theorem d_L_law_229 : decode cL_law 229 = .ok (.invokestatic 79, 3) := by decide +kernel
theorem d_L_law_232 : decode cL_law 232 = .ok (.istore 5, 2) := by decide +kernel
theorem d_L_law_234 : decode cL_law 234 = .ok (.aload_n 2, 1) := by decide +kernel
theorem d_L_law_235 : decode cL_law 235 = .ok (.aload_n 0, 1) := by decide +kernel
theorem d_L_law_236 : decode cL_law 236 = .ok (.iload 4, 2) := by decide +kernel
theorem d_L_law_238 : decode cL_law 238 = .ok (.iconst 1, 1) := by decide +kernel
theorem d_L_law_239 : decode cL_law 239 = .ok (.iadd, 1) := by decide +kernel
theorem d_L_law_240 : decode cL_law 240 = .ok (.iaload, 1) := by decide +kernel
theorem d_L_law_241 : decode cL_law 241 = .ok (.invokevirtual 84, 3) := by decide +kernel
theorem d_L_law_244 : decode cL_law 244 = .ok (.istore 6, 2) := by decide +kernel
theorem d_L_law_246 : decode cL_law 246 = .ok (.aload_n 2, 1) := by decide +kernel
theorem d_L_law_247 : decode cL_law 247 = .ok (.invokevirtual 85, 3) := by decide +kernel
theorem d_L_law_250 : decode cL_law 250 = .ok (.iload 5, 2) := by decide +kernel
theorem d_L_law_252 : decode cL_law 252 = .ok (.if_icmp .eq 5, 3) := by decide +kernel
theorem d_L_law_255 : decode cL_law 255 = .ok (.iconst 0, 1) := by decide +kernel
theorem d_L_law_256 : decode cL_law 256 = .ok (.ireturn, 1) := by decide +kernel
theorem d_L_law_257 : decode cL_law 257 = .ok (.iload 5, 2) := by decide +kernel
theorem d_L_law_259 : decode cL_law 259 = .ok (.ifCond .ne 15, 3) := by decide +kernel
theorem d_L_law_262 : decode cL_law 262 = .ok (.aload_n 3, 1) := by decide +kernel
theorem d_L_law_263 : decode cL_law 263 = .ok (.iconst 0, 1) := by decide +kernel
theorem d_L_law_264 : decode cL_law 264 = .ok (.laload, 1) := by decide +kernel
