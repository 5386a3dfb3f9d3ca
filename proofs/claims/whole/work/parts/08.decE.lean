theorem d_Lw_law_0 : decode code 0 = .ok (.new 7, 3) := by decide +kernel
theorem d_Lw_law_3 : decode code 3 = .ok (.dup, 1) := by decide +kernel
theorem d_Lw_law_4 : decode code 4 = .ok (.invokespecial 9, 3) := by decide +kernel
theorem d_Lw_law_7 : decode code 7 = .ok (.astore_n 1, 1) := by decide +kernel
theorem d_Lw_law_8 : decode code 8 = .ok (.new 10, 3) := by decide +kernel
theorem d_Lw_law_11 : decode code 11 = .ok (.dup, 1) := by decide +kernel
theorem d_Lw_law_12 : decode code 12 = .ok (.invokespecial 12, 3) := by decide +kernel
theorem d_Lw_law_15 : decode code 15 = .ok (.astore_n 2, 1) := by decide +kernel
theorem d_Lw_law_16 : decode code 16 = .ok (.iconst 0, 1) := by decide +kernel
theorem d_Lw_law_17 : decode code 17 = .ok (.istore_n 3, 1) := by decide +kernel
theorem d_Lw_law_18 : decode code 18 = .ok (.iload_n 3, 1) := by decide +kernel
theorem d_Lw_law_19 : decode code 19 = .ok (.aload_n 0, 1) := by decide +kernel
theorem d_Lw_law_20 : decode code 20 = .ok (.arraylength, 1) := by decide +kernel
theorem d_Lw_law_21 : decode code 21 = .ok (.iconst 4, 1) := by decide +kernel
theorem d_Lw_law_22 : decode code 22 = .ok (.isub, 1) := by decide +kernel
theorem d_Lw_law_23 : decode code 23 = .ok (.if_icmp .gt 395, 3) := by decide +kernel
theorem d_Lw_law_26 : decode code 26 = .ok (.aload_n 0, 1) := by decide +kernel
theorem d_Lw_law_27 : decode code 27 = .ok (.iload_n 3, 1) := by decide +kernel
theorem d_Lw_law_28 : decode code 28 = .ok (.iaload, 1) := by decide +kernel
theorem d_Lw_law_29 : decode code 29 = .ok (.bipush 15, 2) := by decide +kernel
theorem d_Lw_law_31 : decode code 31 = .ok (.iand, 1) := by decide +kernel
theorem d_Lw_law_32 : decode code 32 = .ok (.tableswitch 380 0 11 #[64, 87, 100, 123, 136, 179, 212, 255, 278, 291, 324, 357], 64) := by decide +kernel
theorem d_Lw_law_96 : decode code 96 = .ok (.aload_n 1, 1) := by decide +kernel
theorem d_Lw_law_97 : decode code 97 = .ok (.aload_n 0, 1) := by decide +kernel
theorem d_Lw_law_98 : decode code 98 = .ok (.iload_n 3, 1) := by decide +kernel
theorem d_Lw_law_99 : decode code 99 = .ok (.iconst 1, 1) := by decide +kernel
theorem d_Lw_law_100 : decode code 100 = .ok (.iadd, 1) := by decide +kernel
theorem d_Lw_law_101 : decode code 101 = .ok (.iaload, 1) := by decide +kernel
theorem d_Lw_law_102 : decode code 102 = .ok (.invokevirtual 13, 3) := by decide +kernel
theorem d_Lw_law_105 : decode code 105 = .ok (.aload_n 2, 1) := by decide +kernel
theorem d_Lw_law_106 : decode code 106 = .ok (.aload_n 0, 1) := by decide +kernel
theorem d_Lw_law_107 : decode code 107 = .ok (.iload_n 3, 1) := by decide +kernel
theorem d_Lw_law_108 : decode code 108 = .ok (.iconst 1, 1) := by decide +kernel
theorem d_Lw_law_109 : decode code 109 = .ok (.iadd, 1) := by decide +kernel
theorem d_Lw_law_110 : decode code 110 = .ok (.iaload, 1) := by decide +kernel
theorem d_Lw_law_111 : decode code 111 = .ok (.invokevirtual 17, 3) := by decide +kernel
theorem d_Lw_law_114 : decode code 114 = .ok (.if_icmp .eq 298, 3) := by decide +kernel
theorem d_Lw_law_117 : decode code 117 = .ok (.iconst 0, 1) := by decide +kernel
theorem d_Lw_law_118 : decode code 118 = .ok (.ireturn, 1) := by decide +kernel
theorem d_Lw_law_119 : decode code 119 = .ok (.aload_n 1, 1) := by decide +kernel
theorem d_Lw_law_120 : decode code 120 = .ok (.invokevirtual 18, 3) := by decide +kernel
theorem d_Lw_law_123 : decode code 123 = .ok (.aload_n 2, 1) := by decide +kernel
theorem d_Lw_law_124 : decode code 124 = .ok (.invokevirtual 22, 3) := by decide +kernel
theorem d_Lw_law_127 : decode code 127 = .ok (.if_icmp .eq 285, 3) := by decide +kernel
theorem d_Lw_law_130 : decode code 130 = .ok (.iconst 0, 1) := by decide +kernel
theorem d_Lw_law_131 : decode code 131 = .ok (.ireturn, 1) := by decide +kernel
theorem d_Lw_law_132 : decode code 132 = .ok (.aload_n 1, 1) := by decide +kernel
theorem d_Lw_law_133 : decode code 133 = .ok (.aload_n 0, 1) := by decide +kernel
theorem d_Lw_law_134 : decode code 134 = .ok (.iload_n 3, 1) := by decide +kernel
theorem d_Lw_law_135 : decode code 135 = .ok (.iconst 1, 1) := by decide +kernel
theorem d_Lw_law_136 : decode code 136 = .ok (.iadd, 1) := by decide +kernel
theorem d_Lw_law_137 : decode code 137 = .ok (.iaload, 1) := by decide +kernel
theorem d_Lw_law_138 : decode code 138 = .ok (.invokevirtual 23, 3) := by decide +kernel
theorem d_Lw_law_141 : decode code 141 = .ok (.aload_n 2, 1) := by decide +kernel
theorem d_Lw_law_142 : decode code 142 = .ok (.aload_n 0, 1) := by decide +kernel
theorem d_Lw_law_143 : decode code 143 = .ok (.iload_n 3, 1) := by decide +kernel
theorem d_Lw_law_144 : decode code 144 = .ok (.iconst 1, 1) := by decide +kernel
theorem d_Lw_law_145 : decode code 145 = .ok (.iadd, 1) := by decide +kernel
theorem d_Lw_law_146 : decode code 146 = .ok (.iaload, 1) := by decide +kernel
theorem d_Lw_law_147 : decode code 147 = .ok (.invokevirtual 27, 3) := by decide +kernel
theorem d_Lw_law_150 : decode code 150 = .ok (.if_icmp .eq 262, 3) := by decide +kernel
theorem d_Lw_law_153 : decode code 153 = .ok (.iconst 0, 1) := by decide +kernel
theorem d_Lw_law_154 : decode code 154 = .ok (.ireturn, 1) := by decide +kernel
theorem d_Lw_law_155 : decode code 155 = .ok (.aload_n 1, 1) := by decide +kernel
theorem d_Lw_law_156 : decode code 156 = .ok (.invokevirtual 28, 3) := by decide +kernel
theorem d_Lw_law_159 : decode code 159 = .ok (.aload_n 2, 1) := by decide +kernel
theorem d_Lw_law_160 : decode code 160 = .ok (.invokevirtual 31, 3) := by decide +kernel
theorem d_Lw_law_163 : decode code 163 = .ok (.if_icmp .eq 249, 3) := by decide +kernel
theorem d_Lw_law_166 : decode code 166 = .ok (.iconst 0, 1) := by decide +kernel
theorem d_Lw_law_167 : decode code 167 = .ok (.ireturn, 1) := by decide +kernel
theorem d_Lw_law_168 : decode code 168 = .ok (.aload_n 1, 1) := by decide +kernel
theorem d_Lw_law_169 : decode code 169 = .ok (.aload_n 0, 1) := by decide +kernel
theorem d_Lw_law_170 : decode code 170 = .ok (.iload_n 3, 1) := by decide +kernel
theorem d_Lw_law_171 : decode code 171 = .ok (.iconst 1, 1) := by decide +kernel
theorem d_Lw_law_172 : decode code 172 = .ok (.iadd, 1) := by decide +kernel
theorem d_Lw_law_173 : decode code 173 = .ok (.iaload, 1) := by decide +kernel
theorem d_Lw_law_174 : decode code 174 = .ok (.aload_n 0, 1) := by decide +kernel
theorem d_Lw_law_175 : decode code 175 = .ok (.iload_n 3, 1) := by decide +kernel
theorem d_Lw_law_176 : decode code 176 = .ok (.iconst 2, 1) := by decide +kernel
theorem d_Lw_law_177 : decode code 177 = .ok (.iadd, 1) := by decide +kernel
theorem d_Lw_law_178 : decode code 178 = .ok (.iaload, 1) := by decide +kernel
theorem d_Lw_law_179 : decode code 179 = .ok (.aload_n 0, 1) := by decide +kernel
theorem d_Lw_law_180 : decode code 180 = .ok (.iload_n 3, 1) := by decide +kernel
theorem d_Lw_law_181 : decode code 181 = .ok (.iconst 3, 1) := by decide +kernel
theorem d_Lw_law_182 : decode code 182 = .ok (.iadd, 1) := by decide +kernel
theorem d_Lw_law_183 : decode code 183 = .ok (.iaload, 1) := by decide +kernel
theorem d_Lw_law_184 : decode code 184 = .ok (.invokevirtual 32, 3) := by decide +kernel
theorem d_Lw_law_187 : decode code 187 = .ok (.aload_n 2, 1) := by decide +kernel
theorem d_Lw_law_188 : decode code 188 = .ok (.aload_n 0, 1) := by decide +kernel
theorem d_Lw_law_189 : decode code 189 = .ok (.iload_n 3, 1) := by decide +kernel
theorem d_Lw_law_190 : decode code 190 = .ok (.iconst 1, 1) := by decide +kernel
theorem d_Lw_law_191 : decode code 191 = .ok (.iadd, 1) := by decide +kernel
theorem d_Lw_law_192 : decode code 192 = .ok (.iaload, 1) := by decide +kernel
theorem d_Lw_law_193 : decode code 193 = .ok (.aload_n 0, 1) := by decide +kernel
theorem d_Lw_law_194 : decode code 194 = .ok (.iload_n 3, 1) := by decide +kernel
theorem d_Lw_law_195 : decode code 195 = .ok (.iconst 2, 1) := by decide +kernel
theorem d_Lw_law_196 : decode code 196 = .ok (.iadd, 1) := by decide +kernel
theorem d_Lw_law_197 : decode code 197 = .ok (.iaload, 1) := by decide +kernel
theorem d_Lw_law_198 : decode code 198 = .ok (.aload_n 0, 1) := by decide +kernel
theorem d_Lw_law_199 : decode code 199 = .ok (.iload_n 3, 1) := by decide +kernel
theorem d_Lw_law_200 : decode code 200 = .ok (.iconst 3, 1) := by decide +kernel
theorem d_Lw_law_201 : decode code 201 = .ok (.iadd, 1) := by decide +kernel
theorem d_Lw_law_202 : decode code 202 = .ok (.iaload, 1) := by decide +kernel
theorem d_Lw_law_203 : decode code 203 = .ok (.invokevirtual 36, 3) := by decide +kernel
theorem d_Lw_law_206 : decode code 206 = .ok (.if_icmp .eq 206, 3) := by decide +kernel
theorem d_Lw_law_209 : decode code 209 = .ok (.iconst 0, 1) := by decide +kernel
theorem d_Lw_law_210 : decode code 210 = .ok (.ireturn, 1) := by decide +kernel
theorem d_Lw_law_211 : decode code 211 = .ok (.aload_n 1, 1) := by decide +kernel
theorem d_Lw_law_212 : decode code 212 = .ok (.aload_n 0, 1) := by decide +kernel
theorem d_Lw_law_213 : decode code 213 = .ok (.iload_n 3, 1) := by decide +kernel
theorem d_Lw_law_214 : decode code 214 = .ok (.iconst 1, 1) := by decide +kernel
theorem d_Lw_law_215 : decode code 215 = .ok (.iadd, 1) := by decide +kernel
theorem d_Lw_law_216 : decode code 216 = .ok (.iaload, 1) := by decide +kernel
theorem d_Lw_law_217 : decode code 217 = .ok (.aload_n 0, 1) := by decide +kernel
theorem d_Lw_law_218 : decode code 218 = .ok (.iload_n 3, 1) := by decide +kernel
theorem d_Lw_law_219 : decode code 219 = .ok (.iconst 2, 1) := by decide +kernel
theorem d_Lw_law_220 : decode code 220 = .ok (.iadd, 1) := by decide +kernel
theorem d_Lw_law_221 : decode code 221 = .ok (.iaload, 1) := by decide +kernel
theorem d_Lw_law_222 : decode code 222 = .ok (.invokevirtual 37, 3) := by decide +kernel
theorem d_Lw_law_225 : decode code 225 = .ok (.aload_n 2, 1) := by decide +kernel
theorem d_Lw_law_226 : decode code 226 = .ok (.aload_n 0, 1) := by decide +kernel
theorem d_Lw_law_227 : decode code 227 = .ok (.iload_n 3, 1) := by decide +kernel
theorem d_Lw_law_228 : decode code 228 = .ok (.iconst 1, 1) := by decide +kernel
theorem d_Lw_law_229 : decode code 229 = .ok (.iadd, 1) := by decide +kernel
theorem d_Lw_law_230 : decode code 230 = .ok (.iaload, 1) := by decide +kernel
theorem d_Lw_law_231 : decode code 231 = .ok (.aload_n 0, 1) := by decide +kernel
theorem d_Lw_law_232 : decode code 232 = .ok (.iload_n 3, 1) := by decide +kernel
theorem d_Lw_law_233 : decode code 233 = .ok (.iconst 2, 1) := by decide +kernel
theorem d_Lw_law_234 : decode code 234 = .ok (.iadd, 1) := by decide +kernel
theorem d_Lw_law_235 : decode code 235 = .ok (.iaload, 1) := by decide +kernel
theorem d_Lw_law_236 : decode code 236 = .ok (.invokevirtual 41, 3) := by decide +kernel
theorem d_Lw_law_239 : decode code 239 = .ok (.if_icmp .eq 173, 3) := by decide +kernel
theorem d_Lw_law_242 : decode code 242 = .ok (.iconst 0, 1) := by decide +kernel
theorem d_Lw_law_243 : decode code 243 = .ok (.ireturn, 1) := by decide +kernel
theorem d_Lw_law_244 : decode code 244 = .ok (.aload_n 1, 1) := by decide +kernel
theorem d_Lw_law_245 : decode code 245 = .ok (.aload_n 0, 1) := by decide +kernel
theorem d_Lw_law_246 : decode code 246 = .ok (.iload_n 3, 1) := by decide +kernel
theorem d_Lw_law_247 : decode code 247 = .ok (.iconst 1, 1) := by decide +kernel
theorem d_Lw_law_248 : decode code 248 = .ok (.iadd, 1) := by decide +kernel
theorem d_Lw_law_249 : decode code 249 = .ok (.iaload, 1) := by decide +kernel
theorem d_Lw_law_250 : decode code 250 = .ok (.aload_n 0, 1) := by decide +kernel
theorem d_Lw_law_251 : decode code 251 = .ok (.iload_n 3, 1) := by decide +kernel
theorem d_Lw_law_252 : decode code 252 = .ok (.iconst 2, 1) := by decide +kernel
theorem d_Lw_law_253 : decode code 253 = .ok (.iadd, 1) := by decide +kernel
theorem d_Lw_law_254 : decode code 254 = .ok (.iaload, 1) := by decide +kernel
theorem d_Lw_law_255 : decode code 255 = .ok (.aload_n 0, 1) := by decide +kernel
theorem d_Lw_law_256 : decode code 256 = .ok (.iload_n 3, 1) := by decide +kernel
theorem d_Lw_law_257 : decode code 257 = .ok (.iconst 3, 1) := by decide +kernel
theorem d_Lw_law_258 : decode code 258 = .ok (.iadd, 1) := by decide +kernel
theorem d_Lw_law_259 : decode code 259 = .ok (.iaload, 1) := by decide +kernel
theorem d_Lw_law_260 : decode code 260 = .ok (.invokevirtual 42, 3) := by decide +kernel
theorem d_Lw_law_263 : decode code 263 = .ok (.aload_n 2, 1) := by decide +kernel
theorem d_Lw_law_264 : decode code 264 = .ok (.aload_n 0, 1) := by decide +kernel
theorem d_Lw_law_265 : decode code 265 = .ok (.iload_n 3, 1) := by decide +kernel
theorem d_Lw_law_266 : decode code 266 = .ok (.iconst 1, 1) := by decide +kernel
theorem d_Lw_law_267 : decode code 267 = .ok (.iadd, 1) := by decide +kernel
theorem d_Lw_law_268 : decode code 268 = .ok (.iaload, 1) := by decide +kernel
theorem d_Lw_law_269 : decode code 269 = .ok (.aload_n 0, 1) := by decide +kernel
theorem d_Lw_law_270 : decode code 270 = .ok (.iload_n 3, 1) := by decide +kernel
theorem d_Lw_law_271 : decode code 271 = .ok (.iconst 2, 1) := by decide +kernel
theorem d_Lw_law_272 : decode code 272 = .ok (.iadd, 1) := by decide +kernel
theorem d_Lw_law_273 : decode code 273 = .ok (.iaload, 1) := by decide +kernel
theorem d_Lw_law_274 : decode code 274 = .ok (.aload_n 0, 1) := by decide +kernel
theorem d_Lw_law_275 : decode code 275 = .ok (.iload_n 3, 1) := by decide +kernel
theorem d_Lw_law_276 : decode code 276 = .ok (.iconst 3, 1) := by decide +kernel
theorem d_Lw_law_277 : decode code 277 = .ok (.iadd, 1) := by decide +kernel
theorem d_Lw_law_278 : decode code 278 = .ok (.iaload, 1) := by decide +kernel
theorem d_Lw_law_279 : decode code 279 = .ok (.invokevirtual 45, 3) := by decide +kernel
theorem d_Lw_law_282 : decode code 282 = .ok (.if_icmp .eq 130, 3) := by decide +kernel
theorem d_Lw_law_285 : decode code 285 = .ok (.iconst 0, 1) := by decide +kernel
theorem d_Lw_law_286 : decode code 286 = .ok (.ireturn, 1) := by decide +kernel
theorem d_Lw_law_287 : decode code 287 = .ok (.aload_n 1, 1) := by decide +kernel
theorem d_Lw_law_288 : decode code 288 = .ok (.aload_n 0, 1) := by decide +kernel
theorem d_Lw_law_289 : decode code 289 = .ok (.iload_n 3, 1) := by decide +kernel
theorem d_Lw_law_290 : decode code 290 = .ok (.iconst 1, 1) := by decide +kernel
theorem d_Lw_law_291 : decode code 291 = .ok (.iadd, 1) := by decide +kernel
theorem d_Lw_law_292 : decode code 292 = .ok (.iaload, 1) := by decide +kernel
theorem d_Lw_law_293 : decode code 293 = .ok (.invokevirtual 46, 3) := by decide +kernel
theorem d_Lw_law_296 : decode code 296 = .ok (.aload_n 2, 1) := by decide +kernel
theorem d_Lw_law_297 : decode code 297 = .ok (.aload_n 0, 1) := by decide +kernel
theorem d_Lw_law_298 : decode code 298 = .ok (.iload_n 3, 1) := by decide +kernel
theorem d_Lw_law_299 : decode code 299 = .ok (.iconst 1, 1) := by decide +kernel
theorem d_Lw_law_300 : decode code 300 = .ok (.iadd, 1) := by decide +kernel
theorem d_Lw_law_301 : decode code 301 = .ok (.iaload, 1) := by decide +kernel
theorem d_Lw_law_302 : decode code 302 = .ok (.invokevirtual 49, 3) := by decide +kernel
theorem d_Lw_law_305 : decode code 305 = .ok (.if_icmp .eq 107, 3) := by decide +kernel
theorem d_Lw_law_308 : decode code 308 = .ok (.iconst 0, 1) := by decide +kernel
theorem d_Lw_law_309 : decode code 309 = .ok (.ireturn, 1) := by decide +kernel
theorem d_Lw_law_310 : decode code 310 = .ok (.aload_n 1, 1) := by decide +kernel
theorem d_Lw_law_311 : decode code 311 = .ok (.invokevirtual 50, 3) := by decide +kernel
theorem d_Lw_law_314 : decode code 314 = .ok (.aload_n 2, 1) := by decide +kernel
theorem d_Lw_law_315 : decode code 315 = .ok (.invokevirtual 53, 3) := by decide +kernel
theorem d_Lw_law_318 : decode code 318 = .ok (.if_icmp .eq 94, 3) := by decide +kernel
theorem d_Lw_law_321 : decode code 321 = .ok (.iconst 0, 1) := by decide +kernel
theorem d_Lw_law_322 : decode code 322 = .ok (.ireturn, 1) := by decide +kernel
theorem d_Lw_law_323 : decode code 323 = .ok (.aload_n 1, 1) := by decide +kernel
theorem d_Lw_law_324 : decode code 324 = .ok (.aload_n 0, 1) := by decide +kernel
theorem d_Lw_law_325 : decode code 325 = .ok (.iload_n 3, 1) := by decide +kernel
theorem d_Lw_law_326 : decode code 326 = .ok (.iconst 1, 1) := by decide +kernel
theorem d_Lw_law_327 : decode code 327 = .ok (.iadd, 1) := by decide +kernel
theorem d_Lw_law_328 : decode code 328 = .ok (.iaload, 1) := by decide +kernel
theorem d_Lw_law_329 : decode code 329 = .ok (.aload_n 0, 1) := by decide +kernel
theorem d_Lw_law_330 : decode code 330 = .ok (.iload_n 3, 1) := by decide +kernel
theorem d_Lw_law_331 : decode code 331 = .ok (.iconst 2, 1) := by decide +kernel
theorem d_Lw_law_332 : decode code 332 = .ok (.iadd, 1) := by decide +kernel
theorem d_Lw_law_333 : decode code 333 = .ok (.iaload, 1) := by decide +kernel
theorem d_Lw_law_334 : decode code 334 = .ok (.invokevirtual 54, 3) := by decide +kernel
theorem d_Lw_law_337 : decode code 337 = .ok (.aload_n 2, 1) := by decide +kernel
theorem d_Lw_law_338 : decode code 338 = .ok (.aload_n 0, 1) := by decide +kernel
theorem d_Lw_law_339 : decode code 339 = .ok (.iload_n 3, 1) := by decide +kernel
theorem d_Lw_law_340 : decode code 340 = .ok (.iconst 1, 1) := by decide +kernel
theorem d_Lw_law_341 : decode code 341 = .ok (.iadd, 1) := by decide +kernel
theorem d_Lw_law_342 : decode code 342 = .ok (.iaload, 1) := by decide +kernel
theorem d_Lw_law_343 : decode code 343 = .ok (.aload_n 0, 1) := by decide +kernel
theorem d_Lw_law_344 : decode code 344 = .ok (.iload_n 3, 1) := by decide +kernel
theorem d_Lw_law_345 : decode code 345 = .ok (.iconst 2, 1) := by decide +kernel
theorem d_Lw_law_346 : decode code 346 = .ok (.iadd, 1) := by decide +kernel
theorem d_Lw_law_347 : decode code 347 = .ok (.iaload, 1) := by decide +kernel
theorem d_Lw_law_348 : decode code 348 = .ok (.invokevirtual 57, 3) := by decide +kernel
theorem d_Lw_law_351 : decode code 351 = .ok (.if_icmp .eq 61, 3) := by decide +kernel
theorem d_Lw_law_354 : decode code 354 = .ok (.iconst 0, 1) := by decide +kernel
theorem d_Lw_law_355 : decode code 355 = .ok (.ireturn, 1) := by decide +kernel
theorem d_Lw_law_356 : decode code 356 = .ok (.aload_n 1, 1) := by decide +kernel
theorem d_Lw_law_357 : decode code 357 = .ok (.aload_n 0, 1) := by decide +kernel
theorem d_Lw_law_358 : decode code 358 = .ok (.iload_n 3, 1) := by decide +kernel
theorem d_Lw_law_359 : decode code 359 = .ok (.iconst 1, 1) := by decide +kernel
theorem d_Lw_law_360 : decode code 360 = .ok (.iadd, 1) := by decide +kernel
theorem d_Lw_law_361 : decode code 361 = .ok (.iaload, 1) := by decide +kernel
theorem d_Lw_law_362 : decode code 362 = .ok (.aload_n 0, 1) := by decide +kernel
theorem d_Lw_law_363 : decode code 363 = .ok (.iload_n 3, 1) := by decide +kernel
theorem d_Lw_law_364 : decode code 364 = .ok (.iconst 2, 1) := by decide +kernel
theorem d_Lw_law_365 : decode code 365 = .ok (.iadd, 1) := by decide +kernel
theorem d_Lw_law_366 : decode code 366 = .ok (.iaload, 1) := by decide +kernel
theorem d_Lw_law_367 : decode code 367 = .ok (.invokevirtual 58, 3) := by decide +kernel
theorem d_Lw_law_370 : decode code 370 = .ok (.aload_n 2, 1) := by decide +kernel
theorem d_Lw_law_371 : decode code 371 = .ok (.aload_n 0, 1) := by decide +kernel
theorem d_Lw_law_372 : decode code 372 = .ok (.iload_n 3, 1) := by decide +kernel
theorem d_Lw_law_373 : decode code 373 = .ok (.iconst 1, 1) := by decide +kernel
theorem d_Lw_law_374 : decode code 374 = .ok (.iadd, 1) := by decide +kernel
theorem d_Lw_law_375 : decode code 375 = .ok (.iaload, 1) := by decide +kernel
theorem d_Lw_law_376 : decode code 376 = .ok (.aload_n 0, 1) := by decide +kernel
theorem d_Lw_law_377 : decode code 377 = .ok (.iload_n 3, 1) := by decide +kernel
theorem d_Lw_law_378 : decode code 378 = .ok (.iconst 2, 1) := by decide +kernel
theorem d_Lw_law_379 : decode code 379 = .ok (.iadd, 1) := by decide +kernel
theorem d_Lw_law_380 : decode code 380 = .ok (.iaload, 1) := by decide +kernel
theorem d_Lw_law_381 : decode code 381 = .ok (.invokevirtual 61, 3) := by decide +kernel
theorem d_Lw_law_384 : decode code 384 = .ok (.if_icmp .eq 28, 3) := by decide +kernel
theorem d_Lw_law_387 : decode code 387 = .ok (.iconst 0, 1) := by decide +kernel
theorem d_Lw_law_388 : decode code 388 = .ok (.ireturn, 1) := by decide +kernel
theorem d_Lw_law_389 : decode code 389 = .ok (.aload_n 1, 1) := by decide +kernel
theorem d_Lw_law_390 : decode code 390 = .ok (.aload_n 0, 1) := by decide +kernel
theorem d_Lw_law_391 : decode code 391 = .ok (.iload_n 3, 1) := by decide +kernel
theorem d_Lw_law_392 : decode code 392 = .ok (.iconst 1, 1) := by decide +kernel
theorem d_Lw_law_393 : decode code 393 = .ok (.iadd, 1) := by decide +kernel
theorem d_Lw_law_394 : decode code 394 = .ok (.iaload, 1) := by decide +kernel
theorem d_Lw_law_395 : decode code 395 = .ok (.invokevirtual 62, 3) := by decide +kernel
theorem d_Lw_law_398 : decode code 398 = .ok (.aload_n 2, 1) := by decide +kernel
theorem d_Lw_law_399 : decode code 399 = .ok (.aload_n 0, 1) := by decide +kernel
theorem d_Lw_law_400 : decode code 400 = .ok (.iload_n 3, 1) := by decide +kernel
theorem d_Lw_law_401 : decode code 401 = .ok (.iconst 1, 1) := by decide +kernel
theorem d_Lw_law_402 : decode code 402 = .ok (.iadd, 1) := by decide +kernel
theorem d_Lw_law_403 : decode code 403 = .ok (.iaload, 1) := by decide +kernel
theorem d_Lw_law_404 : decode code 404 = .ok (.invokevirtual 65, 3) := by decide +kernel
theorem d_Lw_law_407 : decode code 407 = .ok (.if_icmp .eq 5, 3) := by decide +kernel
theorem d_Lw_law_410 : decode code 410 = .ok (.iconst 0, 1) := by decide +kernel
theorem d_Lw_law_411 : decode code 411 = .ok (.ireturn, 1) := by decide +kernel
theorem d_Lw_law_412 : decode code 412 = .ok (.iinc 3 4, 3) := by decide +kernel
theorem d_Lw_law_415 : decode code 415 = .ok (.goto (-397), 3) := by decide +kernel
theorem d_Lw_law_418 : decode code 418 = .ok (.iconst 1, 1) := by decide +kernel
theorem d_Lw_law_419 : decode code 419 = .ok (.ireturn, 1) := by decide +kernel
