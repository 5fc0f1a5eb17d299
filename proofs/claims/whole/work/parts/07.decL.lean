theorem d_Law_law_0 : decode b_Law_law 0 = .ok (.new 7, 3) := by decide +kernel
theorem d_Law_law_3 : decode b_Law_law 3 = .ok (.dup, 1) := by decide +kernel
theorem d_Law_law_4 : decode b_Law_law 4 = .ok (.invokespecial 9, 3) := by decide +kernel
theorem d_Law_law_7 : decode b_Law_law 7 = .ok (.astore_n 1, 1) := by decide +kernel
theorem d_Law_law_8 : decode b_Law_law 8 = .ok (.new 10, 3) := by decide +kernel
theorem d_Law_law_11 : decode b_Law_law 11 = .ok (.dup, 1) := by decide +kernel
theorem d_Law_law_12 : decode b_Law_law 12 = .ok (.invokespecial 12, 3) := by decide +kernel
theorem d_Law_law_15 : decode b_Law_law 15 = .ok (.astore_n 2, 1) := by decide +kernel
theorem d_Law_law_16 : decode b_Law_law 16 = .ok (.iconst 0, 1) := by decide +kernel
theorem d_Law_law_17 : decode b_Law_law 17 = .ok (.istore_n 3, 1) := by decide +kernel
theorem d_Law_law_18 : decode b_Law_law 18 = .ok (.iload_n 3, 1) := by decide +kernel
theorem d_Law_law_19 : decode b_Law_law 19 = .ok (.aload_n 0, 1) := by decide +kernel
theorem d_Law_law_20 : decode b_Law_law 20 = .ok (.arraylength, 1) := by decide +kernel
theorem d_Law_law_21 : decode b_Law_law 21 = .ok (.iconst 5, 1) := by decide +kernel
theorem d_Law_law_22 : decode b_Law_law 22 = .ok (.isub, 1) := by decide +kernel
theorem d_Law_law_23 : decode b_Law_law 23 = .ok (.if_icmp .gt 378, 3) := by decide +kernel
theorem d_Law_law_26 : decode b_Law_law 26 = .ok (.aload_n 0, 1) := by decide +kernel
theorem d_Law_law_27 : decode b_Law_law 27 = .ok (.iload_n 3, 1) := by decide +kernel
theorem d_Law_law_28 : decode b_Law_law 28 = .ok (.iaload, 1) := by decide +kernel
theorem d_Law_law_29 : decode b_Law_law 29 = .ok (.bipush 15, 2) := by decide +kernel
theorem d_Law_law_31 : decode b_Law_law 31 = .ok (.iand, 1) := by decide +kernel
theorem d_Law_law_32 : decode b_Law_law 32 = .ok (.tableswitch 363 0 10 #[60, 83, 136, 169, 192, 225, 238, 251, 274, 287, 340], 60) := by decide +kernel
theorem d_Law_law_92 : decode b_Law_law 92 = .ok (.aload_n 1, 1) := by decide +kernel
theorem d_Law_law_93 : decode b_Law_law 93 = .ok (.aload_n 0, 1) := by decide +kernel
theorem d_Law_law_94 : decode b_Law_law 94 = .ok (.iload_n 3, 1) := by decide +kernel
theorem d_Law_law_95 : decode b_Law_law 95 = .ok (.iconst 1, 1) := by decide +kernel
theorem d_Law_law_96 : decode b_Law_law 96 = .ok (.iadd, 1) := by decide +kernel
theorem d_Law_law_97 : decode b_Law_law 97 = .ok (.iaload, 1) := by decide +kernel
theorem d_Law_law_98 : decode b_Law_law 98 = .ok (.invokevirtual 13, 3) := by decide +kernel
theorem d_Law_law_101 : decode b_Law_law 101 = .ok (.aload_n 2, 1) := by decide +kernel
theorem d_Law_law_102 : decode b_Law_law 102 = .ok (.aload_n 0, 1) := by decide +kernel
theorem d_Law_law_103 : decode b_Law_law 103 = .ok (.iload_n 3, 1) := by decide +kernel
theorem d_Law_law_104 : decode b_Law_law 104 = .ok (.iconst 1, 1) := by decide +kernel
theorem d_Law_law_105 : decode b_Law_law 105 = .ok (.iadd, 1) := by decide +kernel
theorem d_Law_law_106 : decode b_Law_law 106 = .ok (.iaload, 1) := by decide +kernel
theorem d_Law_law_107 : decode b_Law_law 107 = .ok (.invokevirtual 17, 3) := by decide +kernel
theorem d_Law_law_110 : decode b_Law_law 110 = .ok (.if_icmp .eq 285, 3) := by decide +kernel
theorem d_Law_law_113 : decode b_Law_law 113 = .ok (.iconst 0, 1) := by decide +kernel
theorem d_Law_law_114 : decode b_Law_law 114 = .ok (.ireturn, 1) := by decide +kernel
theorem d_Law_law_115 : decode b_Law_law 115 = .ok (.aload_n 1, 1) := by decide +kernel
theorem d_Law_law_116 : decode b_Law_law 116 = .ok (.aload_n 0, 1) := by decide +kernel
theorem d_Law_law_117 : decode b_Law_law 117 = .ok (.iload_n 3, 1) := by decide +kernel
theorem d_Law_law_118 : decode b_Law_law 118 = .ok (.iconst 1, 1) := by decide +kernel
theorem d_Law_law_119 : decode b_Law_law 119 = .ok (.iadd, 1) := by decide +kernel
theorem d_Law_law_120 : decode b_Law_law 120 = .ok (.iaload, 1) := by decide +kernel
theorem d_Law_law_121 : decode b_Law_law 121 = .ok (.aload_n 0, 1) := by decide +kernel
theorem d_Law_law_122 : decode b_Law_law 122 = .ok (.iload_n 3, 1) := by decide +kernel
theorem d_Law_law_123 : decode b_Law_law 123 = .ok (.iconst 2, 1) := by decide +kernel
theorem d_Law_law_124 : decode b_Law_law 124 = .ok (.iadd, 1) := by decide +kernel
theorem d_Law_law_125 : decode b_Law_law 125 = .ok (.iaload, 1) := by decide +kernel
theorem d_Law_law_126 : decode b_Law_law 126 = .ok (.aload_n 0, 1) := by decide +kernel
theorem d_Law_law_127 : decode b_Law_law 127 = .ok (.iload_n 3, 1) := by decide +kernel
theorem d_Law_law_128 : decode b_Law_law 128 = .ok (.iconst 3, 1) := by decide +kernel
theorem d_Law_law_129 : decode b_Law_law 129 = .ok (.iadd, 1) := by decide +kernel
theorem d_Law_law_130 : decode b_Law_law 130 = .ok (.iaload, 1) := by decide +kernel
theorem d_Law_law_131 : decode b_Law_law 131 = .ok (.aload_n 0, 1) := by decide +kernel
theorem d_Law_law_132 : decode b_Law_law 132 = .ok (.iload_n 3, 1) := by decide +kernel
theorem d_Law_law_133 : decode b_Law_law 133 = .ok (.iconst 4, 1) := by decide +kernel
theorem d_Law_law_134 : decode b_Law_law 134 = .ok (.iadd, 1) := by decide +kernel
theorem d_Law_law_135 : decode b_Law_law 135 = .ok (.iaload, 1) := by decide +kernel
theorem d_Law_law_136 : decode b_Law_law 136 = .ok (.invokevirtual 18, 3) := by decide +kernel
theorem d_Law_law_139 : decode b_Law_law 139 = .ok (.aload_n 2, 1) := by decide +kernel
theorem d_Law_law_140 : decode b_Law_law 140 = .ok (.aload_n 0, 1) := by decide +kernel
theorem d_Law_law_141 : decode b_Law_law 141 = .ok (.iload_n 3, 1) := by decide +kernel
theorem d_Law_law_142 : decode b_Law_law 142 = .ok (.iconst 1, 1) := by decide +kernel
theorem d_Law_law_143 : decode b_Law_law 143 = .ok (.iadd, 1) := by decide +kernel
theorem d_Law_law_144 : decode b_Law_law 144 = .ok (.iaload, 1) := by decide +kernel
theorem d_Law_law_145 : decode b_Law_law 145 = .ok (.aload_n 0, 1) := by decide +kernel
theorem d_Law_law_146 : decode b_Law_law 146 = .ok (.iload_n 3, 1) := by decide +kernel
theorem d_Law_law_147 : decode b_Law_law 147 = .ok (.iconst 2, 1) := by decide +kernel
theorem d_Law_law_148 : decode b_Law_law 148 = .ok (.iadd, 1) := by decide +kernel
theorem d_Law_law_149 : decode b_Law_law 149 = .ok (.iaload, 1) := by decide +kernel
theorem d_Law_law_150 : decode b_Law_law 150 = .ok (.aload_n 0, 1) := by decide +kernel
theorem d_Law_law_151 : decode b_Law_law 151 = .ok (.iload_n 3, 1) := by decide +kernel
theorem d_Law_law_152 : decode b_Law_law 152 = .ok (.iconst 3, 1) := by decide +kernel
theorem d_Law_law_153 : decode b_Law_law 153 = .ok (.iadd, 1) := by decide +kernel
theorem d_Law_law_154 : decode b_Law_law 154 = .ok (.iaload, 1) := by decide +kernel
theorem d_Law_law_155 : decode b_Law_law 155 = .ok (.aload_n 0, 1) := by decide +kernel
theorem d_Law_law_156 : decode b_Law_law 156 = .ok (.iload_n 3, 1) := by decide +kernel
theorem d_Law_law_157 : decode b_Law_law 157 = .ok (.iconst 4, 1) := by decide +kernel
theorem d_Law_law_158 : decode b_Law_law 158 = .ok (.iadd, 1) := by decide +kernel
theorem d_Law_law_159 : decode b_Law_law 159 = .ok (.iaload, 1) := by decide +kernel
theorem d_Law_law_160 : decode b_Law_law 160 = .ok (.invokevirtual 22, 3) := by decide +kernel
theorem d_Law_law_163 : decode b_Law_law 163 = .ok (.if_icmp .eq 232, 3) := by decide +kernel
theorem d_Law_law_166 : decode b_Law_law 166 = .ok (.iconst 0, 1) := by decide +kernel
theorem d_Law_law_167 : decode b_Law_law 167 = .ok (.ireturn, 1) := by decide +kernel
theorem d_Law_law_168 : decode b_Law_law 168 = .ok (.aload_n 1, 1) := by decide +kernel
theorem d_Law_law_169 : decode b_Law_law 169 = .ok (.aload_n 0, 1) := by decide +kernel
theorem d_Law_law_170 : decode b_Law_law 170 = .ok (.iload_n 3, 1) := by decide +kernel
theorem d_Law_law_171 : decode b_Law_law 171 = .ok (.iconst 1, 1) := by decide +kernel
theorem d_Law_law_172 : decode b_Law_law 172 = .ok (.iadd, 1) := by decide +kernel
theorem d_Law_law_173 : decode b_Law_law 173 = .ok (.iaload, 1) := by decide +kernel
theorem d_Law_law_174 : decode b_Law_law 174 = .ok (.aload_n 0, 1) := by decide +kernel
theorem d_Law_law_175 : decode b_Law_law 175 = .ok (.iload_n 3, 1) := by decide +kernel
theorem d_Law_law_176 : decode b_Law_law 176 = .ok (.iconst 2, 1) := by decide +kernel
theorem d_Law_law_177 : decode b_Law_law 177 = .ok (.iadd, 1) := by decide +kernel
theorem d_Law_law_178 : decode b_Law_law 178 = .ok (.iaload, 1) := by decide +kernel
theorem d_Law_law_179 : decode b_Law_law 179 = .ok (.invokevirtual 23, 3) := by decide +kernel
theorem d_Law_law_182 : decode b_Law_law 182 = .ok (.aload_n 2, 1) := by decide +kernel
theorem d_Law_law_183 : decode b_Law_law 183 = .ok (.aload_n 0, 1) := by decide +kernel
theorem d_Law_law_184 : decode b_Law_law 184 = .ok (.iload_n 3, 1) := by decide +kernel
theorem d_Law_law_185 : decode b_Law_law 185 = .ok (.iconst 1, 1) := by decide +kernel
theorem d_Law_law_186 : decode b_Law_law 186 = .ok (.iadd, 1) := by decide +kernel
theorem d_Law_law_187 : decode b_Law_law 187 = .ok (.iaload, 1) := by decide +kernel
theorem d_Law_law_188 : decode b_Law_law 188 = .ok (.aload_n 0, 1) := by decide +kernel
theorem d_Law_law_189 : decode b_Law_law 189 = .ok (.iload_n 3, 1) := by decide +kernel
theorem d_Law_law_190 : decode b_Law_law 190 = .ok (.iconst 2, 1) := by decide +kernel
theorem d_Law_law_191 : decode b_Law_law 191 = .ok (.iadd, 1) := by decide +kernel
theorem d_Law_law_192 : decode b_Law_law 192 = .ok (.iaload, 1) := by decide +kernel
theorem d_Law_law_193 : decode b_Law_law 193 = .ok (.invokevirtual 27, 3) := by decide +kernel
theorem d_Law_law_196 : decode b_Law_law 196 = .ok (.if_icmp .eq 199, 3) := by decide +kernel
theorem d_Law_law_199 : decode b_Law_law 199 = .ok (.iconst 0, 1) := by decide +kernel
theorem d_Law_law_200 : decode b_Law_law 200 = .ok (.ireturn, 1) := by decide +kernel
theorem d_Law_law_201 : decode b_Law_law 201 = .ok (.aload_n 1, 1) := by decide +kernel
theorem d_Law_law_202 : decode b_Law_law 202 = .ok (.aload_n 0, 1) := by decide +kernel
theorem d_Law_law_203 : decode b_Law_law 203 = .ok (.iload_n 3, 1) := by decide +kernel
theorem d_Law_law_204 : decode b_Law_law 204 = .ok (.iconst 1, 1) := by decide +kernel
theorem d_Law_law_205 : decode b_Law_law 205 = .ok (.iadd, 1) := by decide +kernel
theorem d_Law_law_206 : decode b_Law_law 206 = .ok (.iaload, 1) := by decide +kernel
theorem d_Law_law_207 : decode b_Law_law 207 = .ok (.invokevirtual 28, 3) := by decide +kernel
theorem d_Law_law_210 : decode b_Law_law 210 = .ok (.aload_n 2, 1) := by decide +kernel
theorem d_Law_law_211 : decode b_Law_law 211 = .ok (.aload_n 0, 1) := by decide +kernel
theorem d_Law_law_212 : decode b_Law_law 212 = .ok (.iload_n 3, 1) := by decide +kernel
theorem d_Law_law_213 : decode b_Law_law 213 = .ok (.iconst 1, 1) := by decide +kernel
theorem d_Law_law_214 : decode b_Law_law 214 = .ok (.iadd, 1) := by decide +kernel
theorem d_Law_law_215 : decode b_Law_law 215 = .ok (.iaload, 1) := by decide +kernel
theorem d_Law_law_216 : decode b_Law_law 216 = .ok (.invokevirtual 31, 3) := by decide +kernel
theorem d_Law_law_219 : decode b_Law_law 219 = .ok (.if_icmp .eq 176, 3) := by decide +kernel
theorem d_Law_law_222 : decode b_Law_law 222 = .ok (.iconst 0, 1) := by decide +kernel
theorem d_Law_law_223 : decode b_Law_law 223 = .ok (.ireturn, 1) := by decide +kernel
theorem d_Law_law_224 : decode b_Law_law 224 = .ok (.aload_n 1, 1) := by decide +kernel
theorem d_Law_law_225 : decode b_Law_law 225 = .ok (.aload_n 0, 1) := by decide +kernel
theorem d_Law_law_226 : decode b_Law_law 226 = .ok (.iload_n 3, 1) := by decide +kernel
theorem d_Law_law_227 : decode b_Law_law 227 = .ok (.iconst 1, 1) := by decide +kernel
theorem d_Law_law_228 : decode b_Law_law 228 = .ok (.iadd, 1) := by decide +kernel
theorem d_Law_law_229 : decode b_Law_law 229 = .ok (.iaload, 1) := by decide +kernel
theorem d_Law_law_230 : decode b_Law_law 230 = .ok (.aload_n 0, 1) := by decide +kernel
theorem d_Law_law_231 : decode b_Law_law 231 = .ok (.iload_n 3, 1) := by decide +kernel
theorem d_Law_law_232 : decode b_Law_law 232 = .ok (.iconst 2, 1) := by decide +kernel
theorem d_Law_law_233 : decode b_Law_law 233 = .ok (.iadd, 1) := by decide +kernel
theorem d_Law_law_234 : decode b_Law_law 234 = .ok (.iaload, 1) := by decide +kernel
theorem d_Law_law_235 : decode b_Law_law 235 = .ok (.invokevirtual 32, 3) := by decide +kernel
theorem d_Law_law_238 : decode b_Law_law 238 = .ok (.aload_n 2, 1) := by decide +kernel
theorem d_Law_law_239 : decode b_Law_law 239 = .ok (.aload_n 0, 1) := by decide +kernel
theorem d_Law_law_240 : decode b_Law_law 240 = .ok (.iload_n 3, 1) := by decide +kernel
theorem d_Law_law_241 : decode b_Law_law 241 = .ok (.iconst 1, 1) := by decide +kernel
theorem d_Law_law_242 : decode b_Law_law 242 = .ok (.iadd, 1) := by decide +kernel
theorem d_Law_law_243 : decode b_Law_law 243 = .ok (.iaload, 1) := by decide +kernel
theorem d_Law_law_244 : decode b_Law_law 244 = .ok (.aload_n 0, 1) := by decide +kernel
theorem d_Law_law_245 : decode b_Law_law 245 = .ok (.iload_n 3, 1) := by decide +kernel
theorem d_Law_law_246 : decode b_Law_law 246 = .ok (.iconst 2, 1) := by decide +kernel
theorem d_Law_law_247 : decode b_Law_law 247 = .ok (.iadd, 1) := by decide +kernel
theorem d_Law_law_248 : decode b_Law_law 248 = .ok (.iaload, 1) := by decide +kernel
theorem d_Law_law_249 : decode b_Law_law 249 = .ok (.invokevirtual 35, 3) := by decide +kernel
theorem d_Law_law_252 : decode b_Law_law 252 = .ok (.if_icmp .eq 143, 3) := by decide +kernel
theorem d_Law_law_255 : decode b_Law_law 255 = .ok (.iconst 0, 1) := by decide +kernel
theorem d_Law_law_256 : decode b_Law_law 256 = .ok (.ireturn, 1) := by decide +kernel
theorem d_Law_law_257 : decode b_Law_law 257 = .ok (.aload_n 1, 1) := by decide +kernel
theorem d_Law_law_258 : decode b_Law_law 258 = .ok (.invokevirtual 36, 3) := by decide +kernel
theorem d_Law_law_261 : decode b_Law_law 261 = .ok (.aload_n 2, 1) := by decide +kernel
theorem d_Law_law_262 : decode b_Law_law 262 = .ok (.invokevirtual 40, 3) := by decide +kernel
theorem d_Law_law_265 : decode b_Law_law 265 = .ok (.if_icmp .eq 130, 3) := by decide +kernel
theorem d_Law_law_268 : decode b_Law_law 268 = .ok (.iconst 0, 1) := by decide +kernel
theorem d_Law_law_269 : decode b_Law_law 269 = .ok (.ireturn, 1) := by decide +kernel
theorem d_Law_law_270 : decode b_Law_law 270 = .ok (.aload_n 1, 1) := by decide +kernel
theorem d_Law_law_271 : decode b_Law_law 271 = .ok (.invokevirtual 41, 3) := by decide +kernel
theorem d_Law_law_274 : decode b_Law_law 274 = .ok (.aload_n 2, 1) := by decide +kernel
theorem d_Law_law_275 : decode b_Law_law 275 = .ok (.invokevirtual 44, 3) := by decide +kernel
theorem d_Law_law_278 : decode b_Law_law 278 = .ok (.if_icmp .eq 117, 3) := by decide +kernel
theorem d_Law_law_281 : decode b_Law_law 281 = .ok (.iconst 0, 1) := by decide +kernel
theorem d_Law_law_282 : decode b_Law_law 282 = .ok (.ireturn, 1) := by decide +kernel
theorem d_Law_law_283 : decode b_Law_law 283 = .ok (.aload_n 1, 1) := by decide +kernel
theorem d_Law_law_284 : decode b_Law_law 284 = .ok (.aload_n 0, 1) := by decide +kernel
theorem d_Law_law_285 : decode b_Law_law 285 = .ok (.iload_n 3, 1) := by decide +kernel
theorem d_Law_law_286 : decode b_Law_law 286 = .ok (.iconst 1, 1) := by decide +kernel
theorem d_Law_law_287 : decode b_Law_law 287 = .ok (.iadd, 1) := by decide +kernel
theorem d_Law_law_288 : decode b_Law_law 288 = .ok (.iaload, 1) := by decide +kernel
theorem d_Law_law_289 : decode b_Law_law 289 = .ok (.invokevirtual 45, 3) := by decide +kernel
theorem d_Law_law_292 : decode b_Law_law 292 = .ok (.aload_n 2, 1) := by decide +kernel
theorem d_Law_law_293 : decode b_Law_law 293 = .ok (.aload_n 0, 1) := by decide +kernel
theorem d_Law_law_294 : decode b_Law_law 294 = .ok (.iload_n 3, 1) := by decide +kernel
theorem d_Law_law_295 : decode b_Law_law 295 = .ok (.iconst 1, 1) := by decide +kernel
theorem d_Law_law_296 : decode b_Law_law 296 = .ok (.iadd, 1) := by decide +kernel
theorem d_Law_law_297 : decode b_Law_law 297 = .ok (.iaload, 1) := by decide +kernel
theorem d_Law_law_298 : decode b_Law_law 298 = .ok (.invokevirtual 48, 3) := by decide +kernel
theorem d_Law_law_301 : decode b_Law_law 301 = .ok (.if_icmp .eq 94, 3) := by decide +kernel
theorem d_Law_law_304 : decode b_Law_law 304 = .ok (.iconst 0, 1) := by decide +kernel
theorem d_Law_law_305 : decode b_Law_law 305 = .ok (.ireturn, 1) := by decide +kernel
theorem d_Law_law_306 : decode b_Law_law 306 = .ok (.aload_n 1, 1) := by decide +kernel
theorem d_Law_law_307 : decode b_Law_law 307 = .ok (.invokevirtual 49, 3) := by decide +kernel
theorem d_Law_law_310 : decode b_Law_law 310 = .ok (.aload_n 2, 1) := by decide +kernel
theorem d_Law_law_311 : decode b_Law_law 311 = .ok (.invokevirtual 52, 3) := by decide +kernel
theorem d_Law_law_314 : decode b_Law_law 314 = .ok (.if_icmp .eq 81, 3) := by decide +kernel
theorem d_Law_law_317 : decode b_Law_law 317 = .ok (.iconst 0, 1) := by decide +kernel
theorem d_Law_law_318 : decode b_Law_law 318 = .ok (.ireturn, 1) := by decide +kernel
theorem d_Law_law_319 : decode b_Law_law 319 = .ok (.aload_n 1, 1) := by decide +kernel
theorem d_Law_law_320 : decode b_Law_law 320 = .ok (.aload_n 0, 1) := by decide +kernel
theorem d_Law_law_321 : decode b_Law_law 321 = .ok (.iload_n 3, 1) := by decide +kernel
theorem d_Law_law_322 : decode b_Law_law 322 = .ok (.iconst 1, 1) := by decide +kernel
theorem d_Law_law_323 : decode b_Law_law 323 = .ok (.iadd, 1) := by decide +kernel
theorem d_Law_law_324 : decode b_Law_law 324 = .ok (.iaload, 1) := by decide +kernel
theorem d_Law_law_325 : decode b_Law_law 325 = .ok (.i2l, 1) := by decide +kernel
theorem d_Law_law_326 : decode b_Law_law 326 = .ok (.bipush 32, 2) := by decide +kernel
theorem d_Law_law_328 : decode b_Law_law 328 = .ok (.lshl, 1) := by decide +kernel
theorem d_Law_law_329 : decode b_Law_law 329 = .ok (.aload_n 0, 1) := by decide +kernel
theorem d_Law_law_330 : decode b_Law_law 330 = .ok (.iload_n 3, 1) := by decide +kernel
theorem d_Law_law_331 : decode b_Law_law 331 = .ok (.iconst 2, 1) := by decide +kernel
theorem d_Law_law_332 : decode b_Law_law 332 = .ok (.iadd, 1) := by decide +kernel
theorem d_Law_law_333 : decode b_Law_law 333 = .ok (.iaload, 1) := by decide +kernel
theorem d_Law_law_334 : decode b_Law_law 334 = .ok (.i2l, 1) := by decide +kernel
theorem d_Law_law_335 : decode b_Law_law 335 = .ok (.ldc2_w 53, 3) := by decide +kernel
theorem d_Law_law_338 : decode b_Law_law 338 = .ok (.land, 1) := by decide +kernel
theorem d_Law_law_339 : decode b_Law_law 339 = .ok (.lor, 1) := by decide +kernel
theorem d_Law_law_340 : decode b_Law_law 340 = .ok (.invokevirtual 55, 3) := by decide +kernel
theorem d_Law_law_343 : decode b_Law_law 343 = .ok (.aload_n 2, 1) := by decide +kernel
theorem d_Law_law_344 : decode b_Law_law 344 = .ok (.aload_n 0, 1) := by decide +kernel
theorem d_Law_law_345 : decode b_Law_law 345 = .ok (.iload_n 3, 1) := by decide +kernel
theorem d_Law_law_346 : decode b_Law_law 346 = .ok (.iconst 1, 1) := by decide +kernel
theorem d_Law_law_347 : decode b_Law_law 347 = .ok (.iadd, 1) := by decide +kernel
theorem d_Law_law_348 : decode b_Law_law 348 = .ok (.iaload, 1) := by decide +kernel
theorem d_Law_law_349 : decode b_Law_law 349 = .ok (.i2l, 1) := by decide +kernel
theorem d_Law_law_350 : decode b_Law_law 350 = .ok (.bipush 32, 2) := by decide +kernel
theorem d_Law_law_352 : decode b_Law_law 352 = .ok (.lshl, 1) := by decide +kernel
theorem d_Law_law_353 : decode b_Law_law 353 = .ok (.aload_n 0, 1) := by decide +kernel
theorem d_Law_law_354 : decode b_Law_law 354 = .ok (.iload_n 3, 1) := by decide +kernel
theorem d_Law_law_355 : decode b_Law_law 355 = .ok (.iconst 2, 1) := by decide +kernel
theorem d_Law_law_356 : decode b_Law_law 356 = .ok (.iadd, 1) := by decide +kernel
theorem d_Law_law_357 : decode b_Law_law 357 = .ok (.iaload, 1) := by decide +kernel
theorem d_Law_law_358 : decode b_Law_law 358 = .ok (.i2l, 1) := by decide +kernel
theorem d_Law_law_359 : decode b_Law_law 359 = .ok (.ldc2_w 53, 3) := by decide +kernel
theorem d_Law_law_362 : decode b_Law_law 362 = .ok (.land, 1) := by decide +kernel
theorem d_Law_law_363 : decode b_Law_law 363 = .ok (.lor, 1) := by decide +kernel
theorem d_Law_law_364 : decode b_Law_law 364 = .ok (.invokevirtual 59, 3) := by decide +kernel
theorem d_Law_law_367 : decode b_Law_law 367 = .ok (.if_icmp .eq 28, 3) := by decide +kernel
theorem d_Law_law_370 : decode b_Law_law 370 = .ok (.iconst 0, 1) := by decide +kernel
theorem d_Law_law_371 : decode b_Law_law 371 = .ok (.ireturn, 1) := by decide +kernel
theorem d_Law_law_372 : decode b_Law_law 372 = .ok (.aload_n 1, 1) := by decide +kernel
theorem d_Law_law_373 : decode b_Law_law 373 = .ok (.aload_n 0, 1) := by decide +kernel
theorem d_Law_law_374 : decode b_Law_law 374 = .ok (.iload_n 3, 1) := by decide +kernel
theorem d_Law_law_375 : decode b_Law_law 375 = .ok (.iconst 1, 1) := by decide +kernel
theorem d_Law_law_376 : decode b_Law_law 376 = .ok (.iadd, 1) := by decide +kernel
theorem d_Law_law_377 : decode b_Law_law 377 = .ok (.iaload, 1) := by decide +kernel
theorem d_Law_law_378 : decode b_Law_law 378 = .ok (.invokevirtual 60, 3) := by decide +kernel
theorem d_Law_law_381 : decode b_Law_law 381 = .ok (.aload_n 2, 1) := by decide +kernel
theorem d_Law_law_382 : decode b_Law_law 382 = .ok (.aload_n 0, 1) := by decide +kernel
theorem d_Law_law_383 : decode b_Law_law 383 = .ok (.iload_n 3, 1) := by decide +kernel
theorem d_Law_law_384 : decode b_Law_law 384 = .ok (.iconst 1, 1) := by decide +kernel
theorem d_Law_law_385 : decode b_Law_law 385 = .ok (.iadd, 1) := by decide +kernel
theorem d_Law_law_386 : decode b_Law_law 386 = .ok (.iaload, 1) := by decide +kernel
theorem d_Law_law_387 : decode b_Law_law 387 = .ok (.invokevirtual 63, 3) := by decide +kernel
theorem d_Law_law_390 : decode b_Law_law 390 = .ok (.if_icmp .eq 5, 3) := by decide +kernel
theorem d_Law_law_393 : decode b_Law_law 393 = .ok (.iconst 0, 1) := by decide +kernel
theorem d_Law_law_394 : decode b_Law_law 394 = .ok (.ireturn, 1) := by decide +kernel
theorem d_Law_law_395 : decode b_Law_law 395 = .ok (.iinc 3 5, 3) := by decide +kernel
theorem d_Law_law_398 : decode b_Law_law 398 = .ok (.goto (-380), 3) := by decide +kernel
theorem d_Law_law_401 : decode b_Law_law 401 = .ok (.iconst 1, 1) := by decide +kernel
theorem d_Law_law_402 : decode b_Law_law 402 = .ok (.ireturn, 1) := by decide +kernel
