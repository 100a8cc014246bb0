theorem d_Law_law_0 : decode code 0 = .ok (.new 8, 3) := by decide +kernel
theorem d_Law_law_3 : decode code 3 = .ok (.dup, 1) := by decide +kernel
theorem d_Law_law_4 : decode code 4 = .ok (.invokespecial 60, 3) := by decide +kernel
theorem d_Law_law_7 : decode code 7 = .ok (.astore_n 1, 1) := by decide +kernel
theorem d_Law_law_8 : decode code 8 = .ok (.new 61, 3) := by decide +kernel
theorem d_Law_law_11 : decode code 11 = .ok (.dup, 1) := by decide +kernel
theorem d_Law_law_12 : decode code 12 = .ok (.invokespecial 63, 3) := by decide +kernel
theorem d_Law_law_15 : decode code 15 = .ok (.astore_n 2, 1) := by decide +kernel
theorem d_Law_law_16 : decode code 16 = .ok (.iconst 1, 1) := by decide +kernel
theorem d_Law_law_17 : decode code 17 = .ok (.newarray .long, 2) := by decide +kernel
theorem d_Law_law_19 : decode code 19 = .ok (.astore_n 3, 1) := by decide +kernel
theorem d_Law_law_20 : decode code 20 = .ok (.iconst 1, 1) := by decide +kernel
theorem d_Law_law_21 : decode code 21 = .ok (.newarray .double, 2) := by decide +kernel
theorem d_Law_law_23 : decode code 23 = .ok (.astore 4, 2) := by decide +kernel
theorem d_Law_law_25 : decode code 25 = .ok (.iconst 0, 1) := by decide +kernel
theorem d_Law_law_26 : decode code 26 = .ok (.istore 5, 2) := by decide +kernel
theorem d_Law_law_28 : decode code 28 = .ok (.iload 5, 2) := by decide +kernel
theorem d_Law_law_30 : decode code 30 = .ok (.aload_n 0, 1) := by decide +kernel
theorem d_Law_law_31 : decode code 31 = .ok (.arraylength, 1) := by decide +kernel
theorem d_Law_law_32 : decode code 32 = .ok (.bipush 6, 2) := by decide +kernel
theorem d_Law_law_34 : decode code 34 = .ok (.isub, 1) := by decide +kernel
theorem d_Law_law_35 : decode code 35 = .ok (.if_icmp .gt 920, 3) := by decide +kernel
theorem d_Law_law_38 : decode code 38 = .ok (.aload_n 0, 1) := by decide +kernel
theorem d_Law_law_39 : decode code 39 = .ok (.iload 5, 2) := by decide +kernel
theorem d_Law_law_41 : decode code 41 = .ok (.iaload, 1) := by decide +kernel
theorem d_Law_law_42 : decode code 42 = .ok (.bipush 15, 2) := by decide +kernel
theorem d_Law_law_44 : decode code 44 = .ok (.iand, 1) := by decide +kernel
theorem d_Law_law_45 : decode code 45 = .ok (.tableswitch 904 0 11 #[63, 131, 211, 315, 371, 415, 471, 539, 595, 675, 764, 848], 63) := by decide +kernel
theorem d_Law_law_108 : decode code 108 = .ok (.aload_n 1, 1) := by decide +kernel
theorem d_Law_law_109 : decode code 109 = .ok (.aload_n 0, 1) := by decide +kernel
theorem d_Law_law_110 : decode code 110 = .ok (.iload 5, 2) := by decide +kernel
theorem d_Law_law_112 : decode code 112 = .ok (.iconst 1, 1) := by decide +kernel
theorem d_Law_law_113 : decode code 113 = .ok (.iadd, 1) := by decide +kernel
theorem d_Law_law_114 : decode code 114 = .ok (.iaload, 1) := by decide +kernel
theorem d_Law_law_115 : decode code 115 = .ok (.aload_n 0, 1) := by decide +kernel
theorem d_Law_law_116 : decode code 116 = .ok (.iload 5, 2) := by decide +kernel
theorem d_Law_law_118 : decode code 118 = .ok (.iconst 2, 1) := by decide +kernel
theorem d_Law_law_119 : decode code 119 = .ok (.iadd, 1) := by decide +kernel
theorem d_Law_law_120 : decode code 120 = .ok (.iaload, 1) := by decide +kernel
theorem d_Law_law_121 : decode code 121 = .ok (.aload_n 3, 1) := by decide +kernel
theorem d_Law_law_122 : decode code 122 = .ok (.invokestatic 64, 3) := by decide +kernel
theorem d_Law_law_125 : decode code 125 = .ok (.istore 6, 2) := by decide +kernel
theorem d_Law_law_127 : decode code 127 = .ok (.aload_n 2, 1) := by decide +kernel
theorem d_Law_law_128 : decode code 128 = .ok (.aload_n 0, 1) := by decide +kernel
theorem d_Law_law_129 : decode code 129 = .ok (.iload 5, 2) := by decide +kernel
theorem d_Law_law_131 : decode code 131 = .ok (.iconst 1, 1) := by decide +kernel
theorem d_Law_law_132 : decode code 132 = .ok (.iadd, 1) := by decide +kernel
theorem d_Law_law_133 : decode code 133 = .ok (.iaload, 1) := by decide +kernel
theorem d_Law_law_134 : decode code 134 = .ok (.aload_n 0, 1) := by decide +kernel
theorem d_Law_law_135 : decode code 135 = .ok (.iload 5, 2) := by decide +kernel
theorem d_Law_law_137 : decode code 137 = .ok (.iconst 2, 1) := by decide +kernel
theorem d_Law_law_138 : decode code 138 = .ok (.iadd, 1) := by decide +kernel
theorem d_Law_law_139 : decode code 139 = .ok (.iaload, 1) := by decide +kernel
theorem d_Law_law_140 : decode code 140 = .ok (.invokevirtual 69, 3) := by decide +kernel
theorem d_Law_law_143 : decode code 143 = .ok (.istore 7, 2) := by decide +kernel
theorem d_Law_law_145 : decode code 145 = .ok (.aload_n 2, 1) := by decide +kernel
theorem d_Law_law_146 : decode code 146 = .ok (.invokevirtual 70, 3) := by decide +kernel
theorem d_Law_law_149 : decode code 149 = .ok (.iload 6, 2) := by decide +kernel
theorem d_Law_law_151 : decode code 151 = .ok (.if_icmp .eq 5, 3) := by decide +kernel
theorem d_Law_law_154 : decode code 154 = .ok (.iconst 0, 1) := by decide +kernel
theorem d_Law_law_155 : decode code 155 = .ok (.ireturn, 1) := by decide +kernel
theorem d_Law_law_156 : decode code 156 = .ok (.iload 6, 2) := by decide +kernel
theorem d_Law_law_158 : decode code 158 = .ok (.ifCond .ne 15, 3) := by decide +kernel
theorem d_Law_law_161 : decode code 161 = .ok (.aload_n 3, 1) := by decide +kernel
theorem d_Law_law_162 : decode code 162 = .ok (.iconst 0, 1) := by decide +kernel
theorem d_Law_law_163 : decode code 163 = .ok (.laload, 1) := by decide +kernel
theorem d_Law_law_164 : decode code 164 = .ok (.iload 7, 2) := by decide +kernel
theorem d_Law_law_166 : decode code 166 = .ok (.i2l, 1) := by decide +kernel
theorem d_Law_law_167 : decode code 167 = .ok (.lcmp, 1) := by decide +kernel
theorem d_Law_law_168 : decode code 168 = .ok (.ifCond .eq 5, 3) := by decide +kernel
theorem d_Law_law_171 : decode code 171 = .ok (.iconst 0, 1) := by decide +kernel
theorem d_Law_law_172 : decode code 172 = .ok (.ireturn, 1) := by decide +kernel
theorem d_Law_law_173 : decode code 173 = .ok (.goto 776, 3) := by decide +kernel
theorem d_Law_law_176 : decode code 176 = .ok (.aload_n 1, 1) := by decide +kernel
theorem d_Law_law_177 : decode code 177 = .ok (.aload_n 0, 1) := by decide +kernel
theorem d_Law_law_178 : decode code 178 = .ok (.iload 5, 2) := by decide +kernel
theorem d_Law_law_180 : decode code 180 = .ok (.iconst 1, 1) := by decide +kernel
theorem d_Law_law_181 : decode code 181 = .ok (.iadd, 1) := by decide +kernel
theorem d_Law_law_182 : decode code 182 = .ok (.iaload, 1) := by decide +kernel
theorem d_Law_law_183 : decode code 183 = .ok (.aload_n 0, 1) := by decide +kernel
theorem d_Law_law_184 : decode code 184 = .ok (.iload 5, 2) := by decide +kernel
theorem d_Law_law_186 : decode code 186 = .ok (.iconst 2, 1) := by decide +kernel
theorem d_Law_law_187 : decode code 187 = .ok (.iadd, 1) := by decide +kernel
theorem d_Law_law_188 : decode code 188 = .ok (.iaload, 1) := by decide +kernel
theorem d_Law_law_189 : decode code 189 = .ok (.aload_n 0, 1) := by decide +kernel
theorem d_Law_law_190 : decode code 190 = .ok (.iload 5, 2) := by decide +kernel
theorem d_Law_law_192 : decode code 192 = .ok (.iconst 3, 1) := by decide +kernel
theorem d_Law_law_193 : decode code 193 = .ok (.iadd, 1) := by decide +kernel
theorem d_Law_law_194 : decode code 194 = .ok (.iaload, 1) := by decide +kernel
theorem d_Law_law_195 : decode code 195 = .ok (.aload_n 3, 1) := by decide +kernel
theorem d_Law_law_196 : decode code 196 = .ok (.invokestatic 73, 3) := by decide +kernel
theorem d_Law_law_199 : decode code 199 = .ok (.istore 6, 2) := by decide +kernel
theorem d_Law_law_201 : decode code 201 = .ok (.aload_n 2, 1) := by decide +kernel
theorem d_Law_law_202 : decode code 202 = .ok (.aload_n 0, 1) := by decide +kernel
theorem d_Law_law_203 : decode code 203 = .ok (.iload 5, 2) := by decide +kernel
theorem d_Law_law_205 : decode code 205 = .ok (.iconst 1, 1) := by decide +kernel
theorem d_Law_law_206 : decode code 206 = .ok (.iadd, 1) := by decide +kernel
theorem d_Law_law_207 : decode code 207 = .ok (.iaload, 1) := by decide +kernel
theorem d_Law_law_208 : decode code 208 = .ok (.aload_n 0, 1) := by decide +kernel
theorem d_Law_law_209 : decode code 209 = .ok (.iload 5, 2) := by decide +kernel
theorem d_Law_law_211 : decode code 211 = .ok (.iconst 2, 1) := by decide +kernel
theorem d_Law_law_212 : decode code 212 = .ok (.iadd, 1) := by decide +kernel
theorem d_Law_law_213 : decode code 213 = .ok (.iaload, 1) := by decide +kernel
theorem d_Law_law_214 : decode code 214 = .ok (.aload_n 0, 1) := by decide +kernel
theorem d_Law_law_215 : decode code 215 = .ok (.iload 5, 2) := by decide +kernel
theorem d_Law_law_217 : decode code 217 = .ok (.iconst 3, 1) := by decide +kernel
theorem d_Law_law_218 : decode code 218 = .ok (.iadd, 1) := by decide +kernel
theorem d_Law_law_219 : decode code 219 = .ok (.iaload, 1) := by decide +kernel
theorem d_Law_law_220 : decode code 220 = .ok (.invokevirtual 76, 3) := by decide +kernel
theorem d_Law_law_223 : decode code 223 = .ok (.istore 7, 2) := by decide +kernel
theorem d_Law_law_225 : decode code 225 = .ok (.aload_n 2, 1) := by decide +kernel
theorem d_Law_law_226 : decode code 226 = .ok (.invokevirtual 70, 3) := by decide +kernel
theorem d_Law_law_229 : decode code 229 = .ok (.iload 6, 2) := by decide +kernel
theorem d_Law_law_231 : decode code 231 = .ok (.if_icmp .eq 5, 3) := by decide +kernel
theorem d_Law_law_234 : decode code 234 = .ok (.iconst 0, 1) := by decide +kernel
theorem d_Law_law_235 : decode code 235 = .ok (.ireturn, 1) := by decide +kernel
theorem d_Law_law_236 : decode code 236 = .ok (.iload 6, 2) := by decide +kernel
theorem d_Law_law_238 : decode code 238 = .ok (.ifCond .ne 15, 3) := by decide +kernel
theorem d_Law_law_241 : decode code 241 = .ok (.aload_n 3, 1) := by decide +kernel
theorem d_Law_law_242 : decode code 242 = .ok (.iconst 0, 1) := by decide +kernel
theorem d_Law_law_243 : decode code 243 = .ok (.laload, 1) := by decide +kernel
theorem d_Law_law_244 : decode code 244 = .ok (.iload 7, 2) := by decide +kernel
theorem d_Law_law_246 : decode code 246 = .ok (.i2l, 1) := by decide +kernel
theorem d_Law_law_247 : decode code 247 = .ok (.lcmp, 1) := by decide +kernel
theorem d_Law_law_248 : decode code 248 = .ok (.ifCond .eq 5, 3) := by decide +kernel
theorem d_Law_law_251 : decode code 251 = .ok (.iconst 0, 1) := by decide +kernel
theorem d_Law_law_252 : decode code 252 = .ok (.ireturn, 1) := by decide +kernel
theorem d_Law_law_253 : decode code 253 = .ok (.goto 696, 3) := by decide +kernel
theorem d_Law_law_256 : decode code 256 = .ok (.aload_n 1, 1) := by decide +kernel
theorem d_Law_law_257 : decode code 257 = .ok (.aload_n 0, 1) := by decide +kernel
theorem d_Law_law_258 : decode code 258 = .ok (.iload 5, 2) := by decide +kernel
theorem d_Law_law_260 : decode code 260 = .ok (.iconst 1, 1) := by decide +kernel
theorem d_Law_law_261 : decode code 261 = .ok (.iadd, 1) := by decide +kernel
theorem d_Law_law_262 : decode code 262 = .ok (.iaload, 1) := by decide +kernel
theorem d_Law_law_263 : decode code 263 = .ok (.aload_n 0, 1) := by decide +kernel
theorem d_Law_law_264 : decode code 264 = .ok (.iload 5, 2) := by decide +kernel
theorem d_Law_law_266 : decode code 266 = .ok (.iconst 2, 1) := by decide +kernel
theorem d_Law_law_267 : decode code 267 = .ok (.iadd, 1) := by decide +kernel
theorem d_Law_law_268 : decode code 268 = .ok (.iaload, 1) := by decide +kernel
theorem d_Law_law_269 : decode code 269 = .ok (.aload_n 0, 1) := by decide +kernel
theorem d_Law_law_270 : decode code 270 = .ok (.iload 5, 2) := by decide +kernel
theorem d_Law_law_272 : decode code 272 = .ok (.iconst 3, 1) := by decide +kernel
theorem d_Law_law_273 : decode code 273 = .ok (.iadd, 1) := by decide +kernel
theorem d_Law_law_274 : decode code 274 = .ok (.iaload, 1) := by decide +kernel
theorem d_Law_law_275 : decode code 275 = .ok (.aload_n 0, 1) := by decide +kernel
theorem d_Law_law_276 : decode code 276 = .ok (.iload 5, 2) := by decide +kernel
theorem d_Law_law_278 : decode code 278 = .ok (.iconst 4, 1) := by decide +kernel
theorem d_Law_law_279 : decode code 279 = .ok (.iadd, 1) := by decide +kernel
theorem d_Law_law_280 : decode code 280 = .ok (.iaload, 1) := by decide +kernel
theorem d_Law_law_281 : decode code 281 = .ok (.aload_n 0, 1) := by decide +kernel
theorem d_Law_law_282 : decode code 282 = .ok (.iload 5, 2) := by decide +kernel
theorem d_Law_law_284 : decode code 284 = .ok (.iconst 5, 1) := by decide +kernel
theorem d_Law_law_285 : decode code 285 = .ok (.iadd, 1) := by decide +kernel
theorem d_Law_law_286 : decode code 286 = .ok (.iaload, 1) := by decide +kernel
theorem d_Law_law_287 : decode code 287 = .ok (.aload_n 3, 1) := by decide +kernel
theorem d_Law_law_288 : decode code 288 = .ok (.invokestatic 77, 3) := by decide +kernel
theorem d_Law_law_291 : decode code 291 = .ok (.istore 6, 2) := by decide +kernel
theorem d_Law_law_293 : decode code 293 = .ok (.aload_n 2, 1) := by decide +kernel
theorem d_Law_law_294 : decode code 294 = .ok (.aload_n 0, 1) := by decide +kernel
theorem d_Law_law_295 : decode code 295 = .ok (.iload 5, 2) := by decide +kernel
theorem d_Law_law_297 : decode code 297 = .ok (.iconst 1, 1) := by decide +kernel
theorem d_Law_law_298 : decode code 298 = .ok (.iadd, 1) := by decide +kernel
theorem d_Law_law_299 : decode code 299 = .ok (.iaload, 1) := by decide +kernel
theorem d_Law_law_300 : decode code 300 = .ok (.aload_n 0, 1) := by decide +kernel
theorem d_Law_law_301 : decode code 301 = .ok (.iload 5, 2) := by decide +kernel
theorem d_Law_law_303 : decode code 303 = .ok (.iconst 2, 1) := by decide +kernel
theorem d_Law_law_304 : decode code 304 = .ok (.iadd, 1) := by decide +kernel
theorem d_Law_law_305 : decode code 305 = .ok (.iaload, 1) := by decide +kernel
theorem d_Law_law_306 : decode code 306 = .ok (.aload_n 0, 1) := by decide +kernel
theorem d_Law_law_307 : decode code 307 = .ok (.iload 5, 2) := by decide +kernel
theorem d_Law_law_309 : decode code 309 = .ok (.iconst 3, 1) := by decide +kernel
theorem d_Law_law_310 : decode code 310 = .ok (.iadd, 1) := by decide +kernel
theorem d_Law_law_311 : decode code 311 = .ok (.iaload, 1) := by decide +kernel
theorem d_Law_law_312 : decode code 312 = .ok (.aload_n 0, 1) := by decide +kernel
theorem d_Law_law_313 : decode code 313 = .ok (.iload 5, 2) := by decide +kernel
theorem d_Law_law_315 : decode code 315 = .ok (.iconst 4, 1) := by decide +kernel
theorem d_Law_law_316 : decode code 316 = .ok (.iadd, 1) := by decide +kernel
theorem d_Law_law_317 : decode code 317 = .ok (.iaload, 1) := by decide +kernel
theorem d_Law_law_318 : decode code 318 = .ok (.aload_n 0, 1) := by decide +kernel
theorem d_Law_law_319 : decode code 319 = .ok (.iload 5, 2) := by decide +kernel
