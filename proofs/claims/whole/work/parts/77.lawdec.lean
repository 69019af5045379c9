/-! the law: its instructions (by program, from the listing) -/
theorem d_law_0 : decode m_law.2.1 0 = .ok (.new 7, 3) := by decide +kernel
theorem d_law_3 : decode m_law.2.1 3 = .ok (.dup, 1) := by decide +kernel
theorem d_law_4 : decode m_law.2.1 4 = .ok (.invokespecial 9, 3) := by decide +kernel
theorem d_law_7 : decode m_law.2.1 7 = .ok (.astore_n 1, 1) := by decide +kernel
theorem d_law_8 : decode m_law.2.1 8 = .ok (.new 10, 3) := by decide +kernel
theorem d_law_11 : decode m_law.2.1 11 = .ok (.dup, 1) := by decide +kernel
theorem d_law_12 : decode m_law.2.1 12 = .ok (.invokespecial 12, 3) := by decide +kernel
theorem d_law_15 : decode m_law.2.1 15 = .ok (.astore_n 2, 1) := by decide +kernel
theorem d_law_16 : decode m_law.2.1 16 = .ok (.iconst 0, 1) := by decide +kernel
theorem d_law_17 : decode m_law.2.1 17 = .ok (.istore_n 3, 1) := by decide +kernel
theorem d_law_18 : decode m_law.2.1 18 = .ok (.iload_n 3, 1) := by decide +kernel
theorem d_law_19 : decode m_law.2.1 19 = .ok (.aload_n 0, 1) := by decide +kernel
theorem d_law_20 : decode m_law.2.1 20 = .ok (.arraylength, 1) := by decide +kernel
theorem d_law_21 : decode m_law.2.1 21 = .ok (.bipush 6, 2) := by decide +kernel
theorem d_law_23 : decode m_law.2.1 23 = .ok (.isub, 1) := by decide +kernel
theorem d_law_24 : decode m_law.2.1 24 = .ok (.if_icmp .gt 910, 3) := by decide +kernel
theorem d_law_27 : decode m_law.2.1 27 = .ok (.aload_n 0, 1) := by decide +kernel
theorem d_law_28 : decode m_law.2.1 28 = .ok (.iload_n 3, 1) := by decide +kernel
theorem d_law_29 : decode m_law.2.1 29 = .ok (.iaload, 1) := by decide +kernel
theorem d_law_30 : decode m_law.2.1 30 = .ok (.bipush 31, 2) := by decide +kernel
theorem d_law_32 : decode m_law.2.1 32 = .ok (.iand, 1) := by decide +kernel
theorem d_law_33 : decode m_law.2.1 33 = .ok (.tableswitch 895 0 21 #[103, 166, 209, 252, 285, 334, 357, 370, 403, 446, 469, 492, 505, 548, 581, 614, 647, 710, 763, 796, 819, 842], 103) := by decide +kernel
theorem d_law_136 : decode m_law.2.1 136 = .ok (.aload_n 1, 1) := by decide +kernel
theorem d_law_137 : decode m_law.2.1 137 = .ok (.aload_n 0, 1) := by decide +kernel
theorem d_law_138 : decode m_law.2.1 138 = .ok (.iload_n 3, 1) := by decide +kernel
theorem d_law_139 : decode m_law.2.1 139 = .ok (.iconst 1, 1) := by decide +kernel
theorem d_law_140 : decode m_law.2.1 140 = .ok (.iadd, 1) := by decide +kernel
theorem d_law_141 : decode m_law.2.1 141 = .ok (.iaload, 1) := by decide +kernel
theorem d_law_142 : decode m_law.2.1 142 = .ok (.aload_n 0, 1) := by decide +kernel
theorem d_law_143 : decode m_law.2.1 143 = .ok (.iload_n 3, 1) := by decide +kernel
theorem d_law_144 : decode m_law.2.1 144 = .ok (.iconst 2, 1) := by decide +kernel
theorem d_law_145 : decode m_law.2.1 145 = .ok (.iadd, 1) := by decide +kernel
theorem d_law_146 : decode m_law.2.1 146 = .ok (.iaload, 1) := by decide +kernel
theorem d_law_147 : decode m_law.2.1 147 = .ok (.aload_n 0, 1) := by decide +kernel
theorem d_law_148 : decode m_law.2.1 148 = .ok (.iload_n 3, 1) := by decide +kernel
theorem d_law_149 : decode m_law.2.1 149 = .ok (.iconst 3, 1) := by decide +kernel
theorem d_law_150 : decode m_law.2.1 150 = .ok (.iadd, 1) := by decide +kernel
theorem d_law_151 : decode m_law.2.1 151 = .ok (.iaload, 1) := by decide +kernel
theorem d_law_152 : decode m_law.2.1 152 = .ok (.aload_n 0, 1) := by decide +kernel
theorem d_law_153 : decode m_law.2.1 153 = .ok (.iload_n 3, 1) := by decide +kernel
theorem d_law_154 : decode m_law.2.1 154 = .ok (.iconst 4, 1) := by decide +kernel
theorem d_law_155 : decode m_law.2.1 155 = .ok (.iadd, 1) := by decide +kernel
theorem d_law_156 : decode m_law.2.1 156 = .ok (.iaload, 1) := by decide +kernel
theorem d_law_157 : decode m_law.2.1 157 = .ok (.aload_n 0, 1) := by decide +kernel
theorem d_law_158 : decode m_law.2.1 158 = .ok (.iload_n 3, 1) := by decide +kernel
theorem d_law_159 : decode m_law.2.1 159 = .ok (.iconst 5, 1) := by decide +kernel
theorem d_law_160 : decode m_law.2.1 160 = .ok (.iadd, 1) := by decide +kernel
theorem d_law_161 : decode m_law.2.1 161 = .ok (.iaload, 1) := by decide +kernel
theorem d_law_162 : decode m_law.2.1 162 = .ok (.invokevirtual 13, 3) := by decide +kernel
theorem d_law_165 : decode m_law.2.1 165 = .ok (.aload_n 2, 1) := by decide +kernel
theorem d_law_166 : decode m_law.2.1 166 = .ok (.aload_n 0, 1) := by decide +kernel
theorem d_law_167 : decode m_law.2.1 167 = .ok (.iload_n 3, 1) := by decide +kernel
theorem d_law_168 : decode m_law.2.1 168 = .ok (.iconst 1, 1) := by decide +kernel
theorem d_law_169 : decode m_law.2.1 169 = .ok (.iadd, 1) := by decide +kernel
theorem d_law_170 : decode m_law.2.1 170 = .ok (.iaload, 1) := by decide +kernel
theorem d_law_171 : decode m_law.2.1 171 = .ok (.aload_n 0, 1) := by decide +kernel
theorem d_law_172 : decode m_law.2.1 172 = .ok (.iload_n 3, 1) := by decide +kernel
theorem d_law_173 : decode m_law.2.1 173 = .ok (.iconst 2, 1) := by decide +kernel
theorem d_law_174 : decode m_law.2.1 174 = .ok (.iadd, 1) := by decide +kernel
theorem d_law_175 : decode m_law.2.1 175 = .ok (.iaload, 1) := by decide +kernel
theorem d_law_176 : decode m_law.2.1 176 = .ok (.aload_n 0, 1) := by decide +kernel
theorem d_law_177 : decode m_law.2.1 177 = .ok (.iload_n 3, 1) := by decide +kernel
theorem d_law_178 : decode m_law.2.1 178 = .ok (.iconst 3, 1) := by decide +kernel
theorem d_law_179 : decode m_law.2.1 179 = .ok (.iadd, 1) := by decide +kernel
theorem d_law_180 : decode m_law.2.1 180 = .ok (.iaload, 1) := by decide +kernel
theorem d_law_181 : decode m_law.2.1 181 = .ok (.aload_n 0, 1) := by decide +kernel
theorem d_law_182 : decode m_law.2.1 182 = .ok (.iload_n 3, 1) := by decide +kernel
theorem d_law_183 : decode m_law.2.1 183 = .ok (.iconst 4, 1) := by decide +kernel
theorem d_law_184 : decode m_law.2.1 184 = .ok (.iadd, 1) := by decide +kernel
theorem d_law_185 : decode m_law.2.1 185 = .ok (.iaload, 1) := by decide +kernel
theorem d_law_186 : decode m_law.2.1 186 = .ok (.aload_n 0, 1) := by decide +kernel
theorem d_law_187 : decode m_law.2.1 187 = .ok (.iload_n 3, 1) := by decide +kernel
theorem d_law_188 : decode m_law.2.1 188 = .ok (.iconst 5, 1) := by decide +kernel
theorem d_law_189 : decode m_law.2.1 189 = .ok (.iadd, 1) := by decide +kernel
theorem d_law_190 : decode m_law.2.1 190 = .ok (.iaload, 1) := by decide +kernel
theorem d_law_191 : decode m_law.2.1 191 = .ok (.invokevirtual 17, 3) := by decide +kernel
theorem d_law_194 : decode m_law.2.1 194 = .ok (.if_icmp .eq 734, 3) := by decide +kernel
theorem d_law_197 : decode m_law.2.1 197 = .ok (.iconst 0, 1) := by decide +kernel
theorem d_law_198 : decode m_law.2.1 198 = .ok (.ireturn, 1) := by decide +kernel
theorem d_law_199 : decode m_law.2.1 199 = .ok (.aload_n 1, 1) := by decide +kernel
theorem d_law_200 : decode m_law.2.1 200 = .ok (.aload_n 0, 1) := by decide +kernel
theorem d_law_201 : decode m_law.2.1 201 = .ok (.iload_n 3, 1) := by decide +kernel
theorem d_law_202 : decode m_law.2.1 202 = .ok (.iconst 1, 1) := by decide +kernel
theorem d_law_203 : decode m_law.2.1 203 = .ok (.iadd, 1) := by decide +kernel
theorem d_law_204 : decode m_law.2.1 204 = .ok (.iaload, 1) := by decide +kernel
theorem d_law_205 : decode m_law.2.1 205 = .ok (.aload_n 0, 1) := by decide +kernel
theorem d_law_206 : decode m_law.2.1 206 = .ok (.iload_n 3, 1) := by decide +kernel
theorem d_law_207 : decode m_law.2.1 207 = .ok (.iconst 2, 1) := by decide +kernel
theorem d_law_208 : decode m_law.2.1 208 = .ok (.iadd, 1) := by decide +kernel
theorem d_law_209 : decode m_law.2.1 209 = .ok (.iaload, 1) := by decide +kernel
theorem d_law_210 : decode m_law.2.1 210 = .ok (.aload_n 0, 1) := by decide +kernel
theorem d_law_211 : decode m_law.2.1 211 = .ok (.iload_n 3, 1) := by decide +kernel
theorem d_law_212 : decode m_law.2.1 212 = .ok (.iconst 3, 1) := by decide +kernel
theorem d_law_213 : decode m_law.2.1 213 = .ok (.iadd, 1) := by decide +kernel
theorem d_law_214 : decode m_law.2.1 214 = .ok (.iaload, 1) := by decide +kernel
theorem d_law_215 : decode m_law.2.1 215 = .ok (.invokevirtual 18, 3) := by decide +kernel
theorem d_law_218 : decode m_law.2.1 218 = .ok (.aload_n 2, 1) := by decide +kernel
theorem d_law_219 : decode m_law.2.1 219 = .ok (.aload_n 0, 1) := by decide +kernel
theorem d_law_220 : decode m_law.2.1 220 = .ok (.iload_n 3, 1) := by decide +kernel
theorem d_law_221 : decode m_law.2.1 221 = .ok (.iconst 1, 1) := by decide +kernel
theorem d_law_222 : decode m_law.2.1 222 = .ok (.iadd, 1) := by decide +kernel
theorem d_law_223 : decode m_law.2.1 223 = .ok (.iaload, 1) := by decide +kernel
theorem d_law_224 : decode m_law.2.1 224 = .ok (.aload_n 0, 1) := by decide +kernel
theorem d_law_225 : decode m_law.2.1 225 = .ok (.iload_n 3, 1) := by decide +kernel
theorem d_law_226 : decode m_law.2.1 226 = .ok (.iconst 2, 1) := by decide +kernel
theorem d_law_227 : decode m_law.2.1 227 = .ok (.iadd, 1) := by decide +kernel
theorem d_law_228 : decode m_law.2.1 228 = .ok (.iaload, 1) := by decide +kernel
theorem d_law_229 : decode m_law.2.1 229 = .ok (.aload_n 0, 1) := by decide +kernel
theorem d_law_230 : decode m_law.2.1 230 = .ok (.iload_n 3, 1) := by decide +kernel
theorem d_law_231 : decode m_law.2.1 231 = .ok (.iconst 3, 1) := by decide +kernel
theorem d_law_232 : decode m_law.2.1 232 = .ok (.iadd, 1) := by decide +kernel
theorem d_law_233 : decode m_law.2.1 233 = .ok (.iaload, 1) := by decide +kernel
theorem d_law_234 : decode m_law.2.1 234 = .ok (.invokevirtual 22, 3) := by decide +kernel
theorem d_law_237 : decode m_law.2.1 237 = .ok (.if_icmp .eq 691, 3) := by decide +kernel
theorem d_law_240 : decode m_law.2.1 240 = .ok (.iconst 0, 1) := by decide +kernel
theorem d_law_241 : decode m_law.2.1 241 = .ok (.ireturn, 1) := by decide +kernel
theorem d_law_242 : decode m_law.2.1 242 = .ok (.aload_n 1, 1) := by decide +kernel
theorem d_law_243 : decode m_law.2.1 243 = .ok (.aload_n 0, 1) := by decide +kernel
theorem d_law_244 : decode m_law.2.1 244 = .ok (.iload_n 3, 1) := by decide +kernel
theorem d_law_245 : decode m_law.2.1 245 = .ok (.iconst 1, 1) := by decide +kernel
theorem d_law_246 : decode m_law.2.1 246 = .ok (.iadd, 1) := by decide +kernel
theorem d_law_247 : decode m_law.2.1 247 = .ok (.iaload, 1) := by decide +kernel
theorem d_law_248 : decode m_law.2.1 248 = .ok (.aload_n 0, 1) := by decide +kernel
theorem d_law_249 : decode m_law.2.1 249 = .ok (.iload_n 3, 1) := by decide +kernel
theorem d_law_250 : decode m_law.2.1 250 = .ok (.iconst 2, 1) := by decide +kernel
theorem d_law_251 : decode m_law.2.1 251 = .ok (.iadd, 1) := by decide +kernel
theorem d_law_252 : decode m_law.2.1 252 = .ok (.iaload, 1) := by decide +kernel
theorem d_law_253 : decode m_law.2.1 253 = .ok (.aload_n 0, 1) := by decide +kernel
theorem d_law_254 : decode m_law.2.1 254 = .ok (.iload_n 3, 1) := by decide +kernel
theorem d_law_255 : decode m_law.2.1 255 = .ok (.iconst 3, 1) := by decide +kernel
theorem d_law_256 : decode m_law.2.1 256 = .ok (.iadd, 1) := by decide +kernel
theorem d_law_257 : decode m_law.2.1 257 = .ok (.iaload, 1) := by decide +kernel
theorem d_law_258 : decode m_law.2.1 258 = .ok (.invokevirtual 23, 3) := by decide +kernel
theorem d_law_261 : decode m_law.2.1 261 = .ok (.aload_n 2, 1) := by decide +kernel
theorem d_law_262 : decode m_law.2.1 262 = .ok (.aload_n 0, 1) := by decide +kernel
theorem d_law_263 : decode m_law.2.1 263 = .ok (.iload_n 3, 1) := by decide +kernel
theorem d_law_264 : decode m_law.2.1 264 = .ok (.iconst 1, 1) := by decide +kernel
theorem d_law_265 : decode m_law.2.1 265 = .ok (.iadd, 1) := by decide +kernel
theorem d_law_266 : decode m_law.2.1 266 = .ok (.iaload, 1) := by decide +kernel
theorem d_law_267 : decode m_law.2.1 267 = .ok (.aload_n 0, 1) := by decide +kernel
theorem d_law_268 : decode m_law.2.1 268 = .ok (.iload_n 3, 1) := by decide +kernel
theorem d_law_269 : decode m_law.2.1 269 = .ok (.iconst 2, 1) := by decide +kernel
theorem d_law_270 : decode m_law.2.1 270 = .ok (.iadd, 1) := by decide +kernel
theorem d_law_271 : decode m_law.2.1 271 = .ok (.iaload, 1) := by decide +kernel
theorem d_law_272 : decode m_law.2.1 272 = .ok (.aload_n 0, 1) := by decide +kernel
theorem d_law_273 : decode m_law.2.1 273 = .ok (.iload_n 3, 1) := by decide +kernel
theorem d_law_274 : decode m_law.2.1 274 = .ok (.iconst 3, 1) := by decide +kernel
theorem d_law_275 : decode m_law.2.1 275 = .ok (.iadd, 1) := by decide +kernel
theorem d_law_276 : decode m_law.2.1 276 = .ok (.iaload, 1) := by decide +kernel
theorem d_law_277 : decode m_law.2.1 277 = .ok (.invokevirtual 26, 3) := by decide +kernel
theorem d_law_280 : decode m_law.2.1 280 = .ok (.if_icmp .eq 648, 3) := by decide +kernel
theorem d_law_283 : decode m_law.2.1 283 = .ok (.iconst 0, 1) := by decide +kernel
theorem d_law_284 : decode m_law.2.1 284 = .ok (.ireturn, 1) := by decide +kernel
theorem d_law_285 : decode m_law.2.1 285 = .ok (.aload_n 1, 1) := by decide +kernel
theorem d_law_286 : decode m_law.2.1 286 = .ok (.aload_n 0, 1) := by decide +kernel
theorem d_law_287 : decode m_law.2.1 287 = .ok (.iload_n 3, 1) := by decide +kernel
theorem d_law_288 : decode m_law.2.1 288 = .ok (.iconst 1, 1) := by decide +kernel
theorem d_law_289 : decode m_law.2.1 289 = .ok (.iadd, 1) := by decide +kernel
theorem d_law_290 : decode m_law.2.1 290 = .ok (.iaload, 1) := by decide +kernel
theorem d_law_291 : decode m_law.2.1 291 = .ok (.aload_n 0, 1) := by decide +kernel
theorem d_law_292 : decode m_law.2.1 292 = .ok (.iload_n 3, 1) := by decide +kernel
theorem d_law_293 : decode m_law.2.1 293 = .ok (.iconst 2, 1) := by decide +kernel
theorem d_law_294 : decode m_law.2.1 294 = .ok (.iadd, 1) := by decide +kernel
theorem d_law_295 : decode m_law.2.1 295 = .ok (.iaload, 1) := by decide +kernel
theorem d_law_296 : decode m_law.2.1 296 = .ok (.invokevirtual 27, 3) := by decide +kernel
theorem d_law_299 : decode m_law.2.1 299 = .ok (.aload_n 2, 1) := by decide +kernel
theorem d_law_300 : decode m_law.2.1 300 = .ok (.aload_n 0, 1) := by decide +kernel
theorem d_law_301 : decode m_law.2.1 301 = .ok (.iload_n 3, 1) := by decide +kernel
theorem d_law_302 : decode m_law.2.1 302 = .ok (.iconst 1, 1) := by decide +kernel
theorem d_law_303 : decode m_law.2.1 303 = .ok (.iadd, 1) := by decide +kernel
theorem d_law_304 : decode m_law.2.1 304 = .ok (.iaload, 1) := by decide +kernel
theorem d_law_305 : decode m_law.2.1 305 = .ok (.aload_n 0, 1) := by decide +kernel
theorem d_law_306 : decode m_law.2.1 306 = .ok (.iload_n 3, 1) := by decide +kernel
theorem d_law_307 : decode m_law.2.1 307 = .ok (.iconst 2, 1) := by decide +kernel
theorem d_law_308 : decode m_law.2.1 308 = .ok (.iadd, 1) := by decide +kernel
theorem d_law_309 : decode m_law.2.1 309 = .ok (.iaload, 1) := by decide +kernel
theorem d_law_310 : decode m_law.2.1 310 = .ok (.invokevirtual 31, 3) := by decide +kernel
theorem d_law_313 : decode m_law.2.1 313 = .ok (.if_icmp .eq 615, 3) := by decide +kernel
theorem d_law_316 : decode m_law.2.1 316 = .ok (.iconst 0, 1) := by decide +kernel
theorem d_law_317 : decode m_law.2.1 317 = .ok (.ireturn, 1) := by decide +kernel
theorem d_law_318 : decode m_law.2.1 318 = .ok (.aload_n 1, 1) := by decide +kernel
theorem d_law_319 : decode m_law.2.1 319 = .ok (.aload_n 0, 1) := by decide +kernel
theorem d_law_320 : decode m_law.2.1 320 = .ok (.iload_n 3, 1) := by decide +kernel
theorem d_law_321 : decode m_law.2.1 321 = .ok (.iconst 1, 1) := by decide +kernel
theorem d_law_322 : decode m_law.2.1 322 = .ok (.iadd, 1) := by decide +kernel
theorem d_law_323 : decode m_law.2.1 323 = .ok (.iaload, 1) := by decide +kernel
theorem d_law_324 : decode m_law.2.1 324 = .ok (.aload_n 0, 1) := by decide +kernel
theorem d_law_325 : decode m_law.2.1 325 = .ok (.iload_n 3, 1) := by decide +kernel
theorem d_law_326 : decode m_law.2.1 326 = .ok (.iconst 2, 1) := by decide +kernel
theorem d_law_327 : decode m_law.2.1 327 = .ok (.iadd, 1) := by decide +kernel
theorem d_law_328 : decode m_law.2.1 328 = .ok (.iaload, 1) := by decide +kernel
theorem d_law_329 : decode m_law.2.1 329 = .ok (.ifCond .eq 7, 3) := by decide +kernel
theorem d_law_332 : decode m_law.2.1 332 = .ok (.iconst 1, 1) := by decide +kernel
theorem d_law_333 : decode m_law.2.1 333 = .ok (.goto 4, 3) := by decide +kernel
theorem d_law_336 : decode m_law.2.1 336 = .ok (.iconst 0, 1) := by decide +kernel
theorem d_law_337 : decode m_law.2.1 337 = .ok (.invokevirtual 32, 3) := by decide +kernel
theorem d_law_340 : decode m_law.2.1 340 = .ok (.aload_n 2, 1) := by decide +kernel
theorem d_law_341 : decode m_law.2.1 341 = .ok (.aload_n 0, 1) := by decide +kernel
theorem d_law_342 : decode m_law.2.1 342 = .ok (.iload_n 3, 1) := by decide +kernel
theorem d_law_343 : decode m_law.2.1 343 = .ok (.iconst 1, 1) := by decide +kernel
theorem d_law_344 : decode m_law.2.1 344 = .ok (.iadd, 1) := by decide +kernel
theorem d_law_345 : decode m_law.2.1 345 = .ok (.iaload, 1) := by decide +kernel
theorem d_law_346 : decode m_law.2.1 346 = .ok (.aload_n 0, 1) := by decide +kernel
theorem d_law_347 : decode m_law.2.1 347 = .ok (.iload_n 3, 1) := by decide +kernel
theorem d_law_348 : decode m_law.2.1 348 = .ok (.iconst 2, 1) := by decide +kernel
theorem d_law_349 : decode m_law.2.1 349 = .ok (.iadd, 1) := by decide +kernel
theorem d_law_350 : decode m_law.2.1 350 = .ok (.iaload, 1) := by decide +kernel
theorem d_law_351 : decode m_law.2.1 351 = .ok (.ifCond .eq 7, 3) := by decide +kernel
theorem d_law_354 : decode m_law.2.1 354 = .ok (.iconst 1, 1) := by decide +kernel
theorem d_law_355 : decode m_law.2.1 355 = .ok (.goto 4, 3) := by decide +kernel
theorem d_law_358 : decode m_law.2.1 358 = .ok (.iconst 0, 1) := by decide +kernel
theorem d_law_359 : decode m_law.2.1 359 = .ok (.invokevirtual 36, 3) := by decide +kernel
theorem d_law_362 : decode m_law.2.1 362 = .ok (.if_icmp .eq 566, 3) := by decide +kernel
theorem d_law_365 : decode m_law.2.1 365 = .ok (.iconst 0, 1) := by decide +kernel
theorem d_law_366 : decode m_law.2.1 366 = .ok (.ireturn, 1) := by decide +kernel
theorem d_law_367 : decode m_law.2.1 367 = .ok (.aload_n 1, 1) := by decide +kernel
theorem d_law_368 : decode m_law.2.1 368 = .ok (.aload_n 0, 1) := by decide +kernel
theorem d_law_369 : decode m_law.2.1 369 = .ok (.iload_n 3, 1) := by decide +kernel
theorem d_law_370 : decode m_law.2.1 370 = .ok (.iconst 1, 1) := by decide +kernel
theorem d_law_371 : decode m_law.2.1 371 = .ok (.iadd, 1) := by decide +kernel
theorem d_law_372 : decode m_law.2.1 372 = .ok (.iaload, 1) := by decide +kernel
theorem d_law_373 : decode m_law.2.1 373 = .ok (.invokevirtual 37, 3) := by decide +kernel
theorem d_law_376 : decode m_law.2.1 376 = .ok (.aload_n 2, 1) := by decide +kernel
theorem d_law_377 : decode m_law.2.1 377 = .ok (.aload_n 0, 1) := by decide +kernel
theorem d_law_378 : decode m_law.2.1 378 = .ok (.iload_n 3, 1) := by decide +kernel
theorem d_law_379 : decode m_law.2.1 379 = .ok (.iconst 1, 1) := by decide +kernel
theorem d_law_380 : decode m_law.2.1 380 = .ok (.iadd, 1) := by decide +kernel
theorem d_law_381 : decode m_law.2.1 381 = .ok (.iaload, 1) := by decide +kernel
theorem d_law_382 : decode m_law.2.1 382 = .ok (.invokevirtual 41, 3) := by decide +kernel
theorem d_law_385 : decode m_law.2.1 385 = .ok (.if_icmp .eq 543, 3) := by decide +kernel
theorem d_law_388 : decode m_law.2.1 388 = .ok (.iconst 0, 1) := by decide +kernel
theorem d_law_389 : decode m_law.2.1 389 = .ok (.ireturn, 1) := by decide +kernel
theorem d_law_390 : decode m_law.2.1 390 = .ok (.aload_n 1, 1) := by decide +kernel
theorem d_law_391 : decode m_law.2.1 391 = .ok (.invokevirtual 42, 3) := by decide +kernel
theorem d_law_394 : decode m_law.2.1 394 = .ok (.aload_n 2, 1) := by decide +kernel
theorem d_law_395 : decode m_law.2.1 395 = .ok (.invokevirtual 46, 3) := by decide +kernel
theorem d_law_398 : decode m_law.2.1 398 = .ok (.if_icmp .eq 530, 3) := by decide +kernel
theorem d_law_401 : decode m_law.2.1 401 = .ok (.iconst 0, 1) := by decide +kernel
theorem d_law_402 : decode m_law.2.1 402 = .ok (.ireturn, 1) := by decide +kernel
theorem d_law_403 : decode m_law.2.1 403 = .ok (.aload_n 1, 1) := by decide +kernel
theorem d_law_404 : decode m_law.2.1 404 = .ok (.aload_n 0, 1) := by decide +kernel
theorem d_law_405 : decode m_law.2.1 405 = .ok (.iload_n 3, 1) := by decide +kernel
theorem d_law_406 : decode m_law.2.1 406 = .ok (.iconst 1, 1) := by decide +kernel
theorem d_law_407 : decode m_law.2.1 407 = .ok (.iadd, 1) := by decide +kernel
theorem d_law_408 : decode m_law.2.1 408 = .ok (.iaload, 1) := by decide +kernel
theorem d_law_409 : decode m_law.2.1 409 = .ok (.aload_n 0, 1) := by decide +kernel
theorem d_law_410 : decode m_law.2.1 410 = .ok (.iload_n 3, 1) := by decide +kernel
theorem d_law_411 : decode m_law.2.1 411 = .ok (.iconst 2, 1) := by decide +kernel
theorem d_law_412 : decode m_law.2.1 412 = .ok (.iadd, 1) := by decide +kernel
theorem d_law_413 : decode m_law.2.1 413 = .ok (.iaload, 1) := by decide +kernel
theorem d_law_414 : decode m_law.2.1 414 = .ok (.invokevirtual 47, 3) := by decide +kernel
theorem d_law_417 : decode m_law.2.1 417 = .ok (.aload_n 2, 1) := by decide +kernel
theorem d_law_418 : decode m_law.2.1 418 = .ok (.aload_n 0, 1) := by decide +kernel
theorem d_law_419 : decode m_law.2.1 419 = .ok (.iload_n 3, 1) := by decide +kernel
theorem d_law_420 : decode m_law.2.1 420 = .ok (.iconst 1, 1) := by decide +kernel
theorem d_law_421 : decode m_law.2.1 421 = .ok (.iadd, 1) := by decide +kernel
theorem d_law_422 : decode m_law.2.1 422 = .ok (.iaload, 1) := by decide +kernel
theorem d_law_423 : decode m_law.2.1 423 = .ok (.aload_n 0, 1) := by decide +kernel
theorem d_law_424 : decode m_law.2.1 424 = .ok (.iload_n 3, 1) := by decide +kernel
theorem d_law_425 : decode m_law.2.1 425 = .ok (.iconst 2, 1) := by decide +kernel
theorem d_law_426 : decode m_law.2.1 426 = .ok (.iadd, 1) := by decide +kernel
theorem d_law_427 : decode m_law.2.1 427 = .ok (.iaload, 1) := by decide +kernel
theorem d_law_428 : decode m_law.2.1 428 = .ok (.invokevirtual 50, 3) := by decide +kernel
theorem d_law_431 : decode m_law.2.1 431 = .ok (.if_icmp .eq 497, 3) := by decide +kernel
theorem d_law_434 : decode m_law.2.1 434 = .ok (.iconst 0, 1) := by decide +kernel
theorem d_law_435 : decode m_law.2.1 435 = .ok (.ireturn, 1) := by decide +kernel
theorem d_law_436 : decode m_law.2.1 436 = .ok (.aload_n 1, 1) := by decide +kernel
theorem d_law_437 : decode m_law.2.1 437 = .ok (.aload_n 0, 1) := by decide +kernel
theorem d_law_438 : decode m_law.2.1 438 = .ok (.iload_n 3, 1) := by decide +kernel
theorem d_law_439 : decode m_law.2.1 439 = .ok (.iconst 1, 1) := by decide +kernel
theorem d_law_440 : decode m_law.2.1 440 = .ok (.iadd, 1) := by decide +kernel
theorem d_law_441 : decode m_law.2.1 441 = .ok (.iaload, 1) := by decide +kernel
theorem d_law_442 : decode m_law.2.1 442 = .ok (.aload_n 0, 1) := by decide +kernel
theorem d_law_443 : decode m_law.2.1 443 = .ok (.iload_n 3, 1) := by decide +kernel
theorem d_law_444 : decode m_law.2.1 444 = .ok (.iconst 2, 1) := by decide +kernel
theorem d_law_445 : decode m_law.2.1 445 = .ok (.iadd, 1) := by decide +kernel
theorem d_law_446 : decode m_law.2.1 446 = .ok (.iaload, 1) := by decide +kernel
theorem d_law_447 : decode m_law.2.1 447 = .ok (.aload_n 0, 1) := by decide +kernel
theorem d_law_448 : decode m_law.2.1 448 = .ok (.iload_n 3, 1) := by decide +kernel
theorem d_law_449 : decode m_law.2.1 449 = .ok (.iconst 3, 1) := by decide +kernel
theorem d_law_450 : decode m_law.2.1 450 = .ok (.iadd, 1) := by decide +kernel
theorem d_law_451 : decode m_law.2.1 451 = .ok (.iaload, 1) := by decide +kernel
theorem d_law_452 : decode m_law.2.1 452 = .ok (.invokevirtual 51, 3) := by decide +kernel
theorem d_law_455 : decode m_law.2.1 455 = .ok (.aload_n 2, 1) := by decide +kernel
theorem d_law_456 : decode m_law.2.1 456 = .ok (.aload_n 0, 1) := by decide +kernel
theorem d_law_457 : decode m_law.2.1 457 = .ok (.iload_n 3, 1) := by decide +kernel
theorem d_law_458 : decode m_law.2.1 458 = .ok (.iconst 1, 1) := by decide +kernel
theorem d_law_459 : decode m_law.2.1 459 = .ok (.iadd, 1) := by decide +kernel
theorem d_law_460 : decode m_law.2.1 460 = .ok (.iaload, 1) := by decide +kernel
theorem d_law_461 : decode m_law.2.1 461 = .ok (.aload_n 0, 1) := by decide +kernel
theorem d_law_462 : decode m_law.2.1 462 = .ok (.iload_n 3, 1) := by decide +kernel
theorem d_law_463 : decode m_law.2.1 463 = .ok (.iconst 2, 1) := by decide +kernel
theorem d_law_464 : decode m_law.2.1 464 = .ok (.iadd, 1) := by decide +kernel
theorem d_law_465 : decode m_law.2.1 465 = .ok (.iaload, 1) := by decide +kernel
theorem d_law_466 : decode m_law.2.1 466 = .ok (.aload_n 0, 1) := by decide +kernel
theorem d_law_467 : decode m_law.2.1 467 = .ok (.iload_n 3, 1) := by decide +kernel
theorem d_law_468 : decode m_law.2.1 468 = .ok (.iconst 3, 1) := by decide +kernel
theorem d_law_469 : decode m_law.2.1 469 = .ok (.iadd, 1) := by decide +kernel
theorem d_law_470 : decode m_law.2.1 470 = .ok (.iaload, 1) := by decide +kernel
theorem d_law_471 : decode m_law.2.1 471 = .ok (.invokevirtual 54, 3) := by decide +kernel
theorem d_law_474 : decode m_law.2.1 474 = .ok (.if_icmp .eq 454, 3) := by decide +kernel
theorem d_law_477 : decode m_law.2.1 477 = .ok (.iconst 0, 1) := by decide +kernel
theorem d_law_478 : decode m_law.2.1 478 = .ok (.ireturn, 1) := by decide +kernel
theorem d_law_479 : decode m_law.2.1 479 = .ok (.aload_n 1, 1) := by decide +kernel
theorem d_law_480 : decode m_law.2.1 480 = .ok (.aload_n 0, 1) := by decide +kernel
theorem d_law_481 : decode m_law.2.1 481 = .ok (.iload_n 3, 1) := by decide +kernel
theorem d_law_482 : decode m_law.2.1 482 = .ok (.iconst 1, 1) := by decide +kernel
theorem d_law_483 : decode m_law.2.1 483 = .ok (.iadd, 1) := by decide +kernel
theorem d_law_484 : decode m_law.2.1 484 = .ok (.iaload, 1) := by decide +kernel
theorem d_law_485 : decode m_law.2.1 485 = .ok (.invokevirtual 55, 3) := by decide +kernel
theorem d_law_488 : decode m_law.2.1 488 = .ok (.aload_n 2, 1) := by decide +kernel
theorem d_law_489 : decode m_law.2.1 489 = .ok (.aload_n 0, 1) := by decide +kernel
theorem d_law_490 : decode m_law.2.1 490 = .ok (.iload_n 3, 1) := by decide +kernel
theorem d_law_491 : decode m_law.2.1 491 = .ok (.iconst 1, 1) := by decide +kernel
theorem d_law_492 : decode m_law.2.1 492 = .ok (.iadd, 1) := by decide +kernel
theorem d_law_493 : decode m_law.2.1 493 = .ok (.iaload, 1) := by decide +kernel
theorem d_law_494 : decode m_law.2.1 494 = .ok (.invokevirtual 58, 3) := by decide +kernel
theorem d_law_497 : decode m_law.2.1 497 = .ok (.if_icmp .eq 431, 3) := by decide +kernel
theorem d_law_500 : decode m_law.2.1 500 = .ok (.iconst 0, 1) := by decide +kernel
theorem d_law_501 : decode m_law.2.1 501 = .ok (.ireturn, 1) := by decide +kernel
theorem d_law_502 : decode m_law.2.1 502 = .ok (.aload_n 1, 1) := by decide +kernel
theorem d_law_503 : decode m_law.2.1 503 = .ok (.aload_n 0, 1) := by decide +kernel
theorem d_law_504 : decode m_law.2.1 504 = .ok (.iload_n 3, 1) := by decide +kernel
theorem d_law_505 : decode m_law.2.1 505 = .ok (.iconst 1, 1) := by decide +kernel
theorem d_law_506 : decode m_law.2.1 506 = .ok (.iadd, 1) := by decide +kernel
theorem d_law_507 : decode m_law.2.1 507 = .ok (.iaload, 1) := by decide +kernel
theorem d_law_508 : decode m_law.2.1 508 = .ok (.invokevirtual 59, 3) := by decide +kernel
theorem d_law_511 : decode m_law.2.1 511 = .ok (.aload_n 2, 1) := by decide +kernel
theorem d_law_512 : decode m_law.2.1 512 = .ok (.aload_n 0, 1) := by decide +kernel
theorem d_law_513 : decode m_law.2.1 513 = .ok (.iload_n 3, 1) := by decide +kernel
theorem d_law_514 : decode m_law.2.1 514 = .ok (.iconst 1, 1) := by decide +kernel
theorem d_law_515 : decode m_law.2.1 515 = .ok (.iadd, 1) := by decide +kernel
theorem d_law_516 : decode m_law.2.1 516 = .ok (.iaload, 1) := by decide +kernel
theorem d_law_517 : decode m_law.2.1 517 = .ok (.invokevirtual 62, 3) := by decide +kernel
theorem d_law_520 : decode m_law.2.1 520 = .ok (.if_icmp .eq 408, 3) := by decide +kernel
theorem d_law_523 : decode m_law.2.1 523 = .ok (.iconst 0, 1) := by decide +kernel
theorem d_law_524 : decode m_law.2.1 524 = .ok (.ireturn, 1) := by decide +kernel
theorem d_law_525 : decode m_law.2.1 525 = .ok (.aload_n 1, 1) := by decide +kernel
theorem d_law_526 : decode m_law.2.1 526 = .ok (.invokevirtual 63, 3) := by decide +kernel
theorem d_law_529 : decode m_law.2.1 529 = .ok (.aload_n 2, 1) := by decide +kernel
theorem d_law_530 : decode m_law.2.1 530 = .ok (.invokevirtual 66, 3) := by decide +kernel
theorem d_law_533 : decode m_law.2.1 533 = .ok (.if_icmp .eq 395, 3) := by decide +kernel
theorem d_law_536 : decode m_law.2.1 536 = .ok (.iconst 0, 1) := by decide +kernel
theorem d_law_537 : decode m_law.2.1 537 = .ok (.ireturn, 1) := by decide +kernel
theorem d_law_538 : decode m_law.2.1 538 = .ok (.aload_n 1, 1) := by decide +kernel
theorem d_law_539 : decode m_law.2.1 539 = .ok (.aload_n 0, 1) := by decide +kernel
theorem d_law_540 : decode m_law.2.1 540 = .ok (.iload_n 3, 1) := by decide +kernel
theorem d_law_541 : decode m_law.2.1 541 = .ok (.iconst 1, 1) := by decide +kernel
theorem d_law_542 : decode m_law.2.1 542 = .ok (.iadd, 1) := by decide +kernel
theorem d_law_543 : decode m_law.2.1 543 = .ok (.iaload, 1) := by decide +kernel
theorem d_law_544 : decode m_law.2.1 544 = .ok (.aload_n 0, 1) := by decide +kernel
theorem d_law_545 : decode m_law.2.1 545 = .ok (.iload_n 3, 1) := by decide +kernel
theorem d_law_546 : decode m_law.2.1 546 = .ok (.iconst 2, 1) := by decide +kernel
theorem d_law_547 : decode m_law.2.1 547 = .ok (.iadd, 1) := by decide +kernel
theorem d_law_548 : decode m_law.2.1 548 = .ok (.iaload, 1) := by decide +kernel
theorem d_law_549 : decode m_law.2.1 549 = .ok (.aload_n 0, 1) := by decide +kernel
theorem d_law_550 : decode m_law.2.1 550 = .ok (.iload_n 3, 1) := by decide +kernel
theorem d_law_551 : decode m_law.2.1 551 = .ok (.iconst 3, 1) := by decide +kernel
theorem d_law_552 : decode m_law.2.1 552 = .ok (.iadd, 1) := by decide +kernel
theorem d_law_553 : decode m_law.2.1 553 = .ok (.iaload, 1) := by decide +kernel
theorem d_law_554 : decode m_law.2.1 554 = .ok (.invokevirtual 67, 3) := by decide +kernel
theorem d_law_557 : decode m_law.2.1 557 = .ok (.aload_n 2, 1) := by decide +kernel
theorem d_law_558 : decode m_law.2.1 558 = .ok (.aload_n 0, 1) := by decide +kernel
theorem d_law_559 : decode m_law.2.1 559 = .ok (.iload_n 3, 1) := by decide +kernel
theorem d_law_560 : decode m_law.2.1 560 = .ok (.iconst 1, 1) := by decide +kernel
theorem d_law_561 : decode m_law.2.1 561 = .ok (.iadd, 1) := by decide +kernel
theorem d_law_562 : decode m_law.2.1 562 = .ok (.iaload, 1) := by decide +kernel
theorem d_law_563 : decode m_law.2.1 563 = .ok (.aload_n 0, 1) := by decide +kernel
theorem d_law_564 : decode m_law.2.1 564 = .ok (.iload_n 3, 1) := by decide +kernel
theorem d_law_565 : decode m_law.2.1 565 = .ok (.iconst 2, 1) := by decide +kernel
theorem d_law_566 : decode m_law.2.1 566 = .ok (.iadd, 1) := by decide +kernel
theorem d_law_567 : decode m_law.2.1 567 = .ok (.iaload, 1) := by decide +kernel
theorem d_law_568 : decode m_law.2.1 568 = .ok (.aload_n 0, 1) := by decide +kernel
theorem d_law_569 : decode m_law.2.1 569 = .ok (.iload_n 3, 1) := by decide +kernel
theorem d_law_570 : decode m_law.2.1 570 = .ok (.iconst 3, 1) := by decide +kernel
theorem d_law_571 : decode m_law.2.1 571 = .ok (.iadd, 1) := by decide +kernel
theorem d_law_572 : decode m_law.2.1 572 = .ok (.iaload, 1) := by decide +kernel
theorem d_law_573 : decode m_law.2.1 573 = .ok (.invokevirtual 70, 3) := by decide +kernel
theorem d_law_576 : decode m_law.2.1 576 = .ok (.if_icmp .eq 352, 3) := by decide +kernel
theorem d_law_579 : decode m_law.2.1 579 = .ok (.iconst 0, 1) := by decide +kernel
theorem d_law_580 : decode m_law.2.1 580 = .ok (.ireturn, 1) := by decide +kernel
theorem d_law_581 : decode m_law.2.1 581 = .ok (.aload_n 1, 1) := by decide +kernel
theorem d_law_582 : decode m_law.2.1 582 = .ok (.aload_n 0, 1) := by decide +kernel
theorem d_law_583 : decode m_law.2.1 583 = .ok (.iload_n 3, 1) := by decide +kernel
theorem d_law_584 : decode m_law.2.1 584 = .ok (.iconst 1, 1) := by decide +kernel
theorem d_law_585 : decode m_law.2.1 585 = .ok (.iadd, 1) := by decide +kernel
theorem d_law_586 : decode m_law.2.1 586 = .ok (.iaload, 1) := by decide +kernel
theorem d_law_587 : decode m_law.2.1 587 = .ok (.aload_n 0, 1) := by decide +kernel
theorem d_law_588 : decode m_law.2.1 588 = .ok (.iload_n 3, 1) := by decide +kernel
theorem d_law_589 : decode m_law.2.1 589 = .ok (.iconst 2, 1) := by decide +kernel
theorem d_law_590 : decode m_law.2.1 590 = .ok (.iadd, 1) := by decide +kernel
theorem d_law_591 : decode m_law.2.1 591 = .ok (.iaload, 1) := by decide +kernel
theorem d_law_592 : decode m_law.2.1 592 = .ok (.invokevirtual 71, 3) := by decide +kernel
theorem d_law_595 : decode m_law.2.1 595 = .ok (.aload_n 2, 1) := by decide +kernel
theorem d_law_596 : decode m_law.2.1 596 = .ok (.aload_n 0, 1) := by decide +kernel
theorem d_law_597 : decode m_law.2.1 597 = .ok (.iload_n 3, 1) := by decide +kernel
theorem d_law_598 : decode m_law.2.1 598 = .ok (.iconst 1, 1) := by decide +kernel
theorem d_law_599 : decode m_law.2.1 599 = .ok (.iadd, 1) := by decide +kernel
theorem d_law_600 : decode m_law.2.1 600 = .ok (.iaload, 1) := by decide +kernel
theorem d_law_601 : decode m_law.2.1 601 = .ok (.aload_n 0, 1) := by decide +kernel
theorem d_law_602 : decode m_law.2.1 602 = .ok (.iload_n 3, 1) := by decide +kernel
theorem d_law_603 : decode m_law.2.1 603 = .ok (.iconst 2, 1) := by decide +kernel
theorem d_law_604 : decode m_law.2.1 604 = .ok (.iadd, 1) := by decide +kernel
theorem d_law_605 : decode m_law.2.1 605 = .ok (.iaload, 1) := by decide +kernel
theorem d_law_606 : decode m_law.2.1 606 = .ok (.invokevirtual 74, 3) := by decide +kernel
theorem d_law_609 : decode m_law.2.1 609 = .ok (.if_icmp .eq 319, 3) := by decide +kernel
theorem d_law_612 : decode m_law.2.1 612 = .ok (.iconst 0, 1) := by decide +kernel
theorem d_law_613 : decode m_law.2.1 613 = .ok (.ireturn, 1) := by decide +kernel
theorem d_law_614 : decode m_law.2.1 614 = .ok (.aload_n 1, 1) := by decide +kernel
theorem d_law_615 : decode m_law.2.1 615 = .ok (.aload_n 0, 1) := by decide +kernel
theorem d_law_616 : decode m_law.2.1 616 = .ok (.iload_n 3, 1) := by decide +kernel
theorem d_law_617 : decode m_law.2.1 617 = .ok (.iconst 1, 1) := by decide +kernel
theorem d_law_618 : decode m_law.2.1 618 = .ok (.iadd, 1) := by decide +kernel
theorem d_law_619 : decode m_law.2.1 619 = .ok (.iaload, 1) := by decide +kernel
theorem d_law_620 : decode m_law.2.1 620 = .ok (.aload_n 0, 1) := by decide +kernel
theorem d_law_621 : decode m_law.2.1 621 = .ok (.iload_n 3, 1) := by decide +kernel
theorem d_law_622 : decode m_law.2.1 622 = .ok (.iconst 2, 1) := by decide +kernel
theorem d_law_623 : decode m_law.2.1 623 = .ok (.iadd, 1) := by decide +kernel
theorem d_law_624 : decode m_law.2.1 624 = .ok (.iaload, 1) := by decide +kernel
theorem d_law_625 : decode m_law.2.1 625 = .ok (.invokevirtual 75, 3) := by decide +kernel
theorem d_law_628 : decode m_law.2.1 628 = .ok (.aload_n 2, 1) := by decide +kernel
theorem d_law_629 : decode m_law.2.1 629 = .ok (.aload_n 0, 1) := by decide +kernel
theorem d_law_630 : decode m_law.2.1 630 = .ok (.iload_n 3, 1) := by decide +kernel
theorem d_law_631 : decode m_law.2.1 631 = .ok (.iconst 1, 1) := by decide +kernel
theorem d_law_632 : decode m_law.2.1 632 = .ok (.iadd, 1) := by decide +kernel
theorem d_law_633 : decode m_law.2.1 633 = .ok (.iaload, 1) := by decide +kernel
theorem d_law_634 : decode m_law.2.1 634 = .ok (.aload_n 0, 1) := by decide +kernel
theorem d_law_635 : decode m_law.2.1 635 = .ok (.iload_n 3, 1) := by decide +kernel
theorem d_law_636 : decode m_law.2.1 636 = .ok (.iconst 2, 1) := by decide +kernel
theorem d_law_637 : decode m_law.2.1 637 = .ok (.iadd, 1) := by decide +kernel
theorem d_law_638 : decode m_law.2.1 638 = .ok (.iaload, 1) := by decide +kernel
theorem d_law_639 : decode m_law.2.1 639 = .ok (.invokevirtual 78, 3) := by decide +kernel
theorem d_law_642 : decode m_law.2.1 642 = .ok (.if_icmp .eq 286, 3) := by decide +kernel
theorem d_law_645 : decode m_law.2.1 645 = .ok (.iconst 0, 1) := by decide +kernel
theorem d_law_646 : decode m_law.2.1 646 = .ok (.ireturn, 1) := by decide +kernel
theorem d_law_647 : decode m_law.2.1 647 = .ok (.aload_n 1, 1) := by decide +kernel
theorem d_law_648 : decode m_law.2.1 648 = .ok (.aload_n 0, 1) := by decide +kernel
theorem d_law_649 : decode m_law.2.1 649 = .ok (.iload_n 3, 1) := by decide +kernel
theorem d_law_650 : decode m_law.2.1 650 = .ok (.iconst 1, 1) := by decide +kernel
theorem d_law_651 : decode m_law.2.1 651 = .ok (.iadd, 1) := by decide +kernel
theorem d_law_652 : decode m_law.2.1 652 = .ok (.iaload, 1) := by decide +kernel
theorem d_law_653 : decode m_law.2.1 653 = .ok (.aload_n 0, 1) := by decide +kernel
theorem d_law_654 : decode m_law.2.1 654 = .ok (.iload_n 3, 1) := by decide +kernel
theorem d_law_655 : decode m_law.2.1 655 = .ok (.iconst 2, 1) := by decide +kernel
theorem d_law_656 : decode m_law.2.1 656 = .ok (.iadd, 1) := by decide +kernel
theorem d_law_657 : decode m_law.2.1 657 = .ok (.iaload, 1) := by decide +kernel
theorem d_law_658 : decode m_law.2.1 658 = .ok (.invokevirtual 79, 3) := by decide +kernel
theorem d_law_661 : decode m_law.2.1 661 = .ok (.aload_n 2, 1) := by decide +kernel
theorem d_law_662 : decode m_law.2.1 662 = .ok (.aload_n 0, 1) := by decide +kernel
theorem d_law_663 : decode m_law.2.1 663 = .ok (.iload_n 3, 1) := by decide +kernel
theorem d_law_664 : decode m_law.2.1 664 = .ok (.iconst 1, 1) := by decide +kernel
theorem d_law_665 : decode m_law.2.1 665 = .ok (.iadd, 1) := by decide +kernel
theorem d_law_666 : decode m_law.2.1 666 = .ok (.iaload, 1) := by decide +kernel
theorem d_law_667 : decode m_law.2.1 667 = .ok (.aload_n 0, 1) := by decide +kernel
theorem d_law_668 : decode m_law.2.1 668 = .ok (.iload_n 3, 1) := by decide +kernel
theorem d_law_669 : decode m_law.2.1 669 = .ok (.iconst 2, 1) := by decide +kernel
theorem d_law_670 : decode m_law.2.1 670 = .ok (.iadd, 1) := by decide +kernel
theorem d_law_671 : decode m_law.2.1 671 = .ok (.iaload, 1) := by decide +kernel
theorem d_law_672 : decode m_law.2.1 672 = .ok (.invokevirtual 82, 3) := by decide +kernel
theorem d_law_675 : decode m_law.2.1 675 = .ok (.if_icmp .eq 253, 3) := by decide +kernel
theorem d_law_678 : decode m_law.2.1 678 = .ok (.iconst 0, 1) := by decide +kernel
theorem d_law_679 : decode m_law.2.1 679 = .ok (.ireturn, 1) := by decide +kernel
theorem d_law_680 : decode m_law.2.1 680 = .ok (.aload_n 1, 1) := by decide +kernel
theorem d_law_681 : decode m_law.2.1 681 = .ok (.aload_n 0, 1) := by decide +kernel
theorem d_law_682 : decode m_law.2.1 682 = .ok (.iload_n 3, 1) := by decide +kernel
theorem d_law_683 : decode m_law.2.1 683 = .ok (.iconst 1, 1) := by decide +kernel
theorem d_law_684 : decode m_law.2.1 684 = .ok (.iadd, 1) := by decide +kernel
theorem d_law_685 : decode m_law.2.1 685 = .ok (.iaload, 1) := by decide +kernel
theorem d_law_686 : decode m_law.2.1 686 = .ok (.aload_n 0, 1) := by decide +kernel
theorem d_law_687 : decode m_law.2.1 687 = .ok (.iload_n 3, 1) := by decide +kernel
theorem d_law_688 : decode m_law.2.1 688 = .ok (.iconst 2, 1) := by decide +kernel
theorem d_law_689 : decode m_law.2.1 689 = .ok (.iadd, 1) := by decide +kernel
theorem d_law_690 : decode m_law.2.1 690 = .ok (.iaload, 1) := by decide +kernel
theorem d_law_691 : decode m_law.2.1 691 = .ok (.aload_n 0, 1) := by decide +kernel
theorem d_law_692 : decode m_law.2.1 692 = .ok (.iload_n 3, 1) := by decide +kernel
theorem d_law_693 : decode m_law.2.1 693 = .ok (.iconst 3, 1) := by decide +kernel
theorem d_law_694 : decode m_law.2.1 694 = .ok (.iadd, 1) := by decide +kernel
theorem d_law_695 : decode m_law.2.1 695 = .ok (.iaload, 1) := by decide +kernel
theorem d_law_696 : decode m_law.2.1 696 = .ok (.aload_n 0, 1) := by decide +kernel
theorem d_law_697 : decode m_law.2.1 697 = .ok (.iload_n 3, 1) := by decide +kernel
theorem d_law_698 : decode m_law.2.1 698 = .ok (.iconst 4, 1) := by decide +kernel
theorem d_law_699 : decode m_law.2.1 699 = .ok (.iadd, 1) := by decide +kernel
theorem d_law_700 : decode m_law.2.1 700 = .ok (.iaload, 1) := by decide +kernel
theorem d_law_701 : decode m_law.2.1 701 = .ok (.aload_n 0, 1) := by decide +kernel
theorem d_law_702 : decode m_law.2.1 702 = .ok (.iload_n 3, 1) := by decide +kernel
theorem d_law_703 : decode m_law.2.1 703 = .ok (.iconst 5, 1) := by decide +kernel
theorem d_law_704 : decode m_law.2.1 704 = .ok (.iadd, 1) := by decide +kernel
theorem d_law_705 : decode m_law.2.1 705 = .ok (.iaload, 1) := by decide +kernel
theorem d_law_706 : decode m_law.2.1 706 = .ok (.invokevirtual 83, 3) := by decide +kernel
theorem d_law_709 : decode m_law.2.1 709 = .ok (.aload_n 2, 1) := by decide +kernel
theorem d_law_710 : decode m_law.2.1 710 = .ok (.aload_n 0, 1) := by decide +kernel
theorem d_law_711 : decode m_law.2.1 711 = .ok (.iload_n 3, 1) := by decide +kernel
theorem d_law_712 : decode m_law.2.1 712 = .ok (.iconst 1, 1) := by decide +kernel
theorem d_law_713 : decode m_law.2.1 713 = .ok (.iadd, 1) := by decide +kernel
theorem d_law_714 : decode m_law.2.1 714 = .ok (.iaload, 1) := by decide +kernel
theorem d_law_715 : decode m_law.2.1 715 = .ok (.aload_n 0, 1) := by decide +kernel
theorem d_law_716 : decode m_law.2.1 716 = .ok (.iload_n 3, 1) := by decide +kernel
theorem d_law_717 : decode m_law.2.1 717 = .ok (.iconst 2, 1) := by decide +kernel
theorem d_law_718 : decode m_law.2.1 718 = .ok (.iadd, 1) := by decide +kernel
theorem d_law_719 : decode m_law.2.1 719 = .ok (.iaload, 1) := by decide +kernel
theorem d_law_720 : decode m_law.2.1 720 = .ok (.aload_n 0, 1) := by decide +kernel
theorem d_law_721 : decode m_law.2.1 721 = .ok (.iload_n 3, 1) := by decide +kernel
theorem d_law_722 : decode m_law.2.1 722 = .ok (.iconst 3, 1) := by decide +kernel
theorem d_law_723 : decode m_law.2.1 723 = .ok (.iadd, 1) := by decide +kernel
theorem d_law_724 : decode m_law.2.1 724 = .ok (.iaload, 1) := by decide +kernel
theorem d_law_725 : decode m_law.2.1 725 = .ok (.aload_n 0, 1) := by decide +kernel
theorem d_law_726 : decode m_law.2.1 726 = .ok (.iload_n 3, 1) := by decide +kernel
theorem d_law_727 : decode m_law.2.1 727 = .ok (.iconst 4, 1) := by decide +kernel
theorem d_law_728 : decode m_law.2.1 728 = .ok (.iadd, 1) := by decide +kernel
theorem d_law_729 : decode m_law.2.1 729 = .ok (.iaload, 1) := by decide +kernel
theorem d_law_730 : decode m_law.2.1 730 = .ok (.aload_n 0, 1) := by decide +kernel
theorem d_law_731 : decode m_law.2.1 731 = .ok (.iload_n 3, 1) := by decide +kernel
theorem d_law_732 : decode m_law.2.1 732 = .ok (.iconst 5, 1) := by decide +kernel
theorem d_law_733 : decode m_law.2.1 733 = .ok (.iadd, 1) := by decide +kernel
theorem d_law_734 : decode m_law.2.1 734 = .ok (.iaload, 1) := by decide +kernel
theorem d_law_735 : decode m_law.2.1 735 = .ok (.invokevirtual 86, 3) := by decide +kernel
theorem d_law_738 : decode m_law.2.1 738 = .ok (.if_icmp .eq 190, 3) := by decide +kernel
theorem d_law_741 : decode m_law.2.1 741 = .ok (.iconst 0, 1) := by decide +kernel
theorem d_law_742 : decode m_law.2.1 742 = .ok (.ireturn, 1) := by decide +kernel
theorem d_law_743 : decode m_law.2.1 743 = .ok (.aload_n 1, 1) := by decide +kernel
theorem d_law_744 : decode m_law.2.1 744 = .ok (.aload_n 0, 1) := by decide +kernel
theorem d_law_745 : decode m_law.2.1 745 = .ok (.iload_n 3, 1) := by decide +kernel
theorem d_law_746 : decode m_law.2.1 746 = .ok (.iconst 1, 1) := by decide +kernel
theorem d_law_747 : decode m_law.2.1 747 = .ok (.iadd, 1) := by decide +kernel
theorem d_law_748 : decode m_law.2.1 748 = .ok (.iaload, 1) := by decide +kernel
theorem d_law_749 : decode m_law.2.1 749 = .ok (.aload_n 0, 1) := by decide +kernel
theorem d_law_750 : decode m_law.2.1 750 = .ok (.iload_n 3, 1) := by decide +kernel
theorem d_law_751 : decode m_law.2.1 751 = .ok (.iconst 2, 1) := by decide +kernel
theorem d_law_752 : decode m_law.2.1 752 = .ok (.iadd, 1) := by decide +kernel
theorem d_law_753 : decode m_law.2.1 753 = .ok (.iaload, 1) := by decide +kernel
theorem d_law_754 : decode m_law.2.1 754 = .ok (.aload_n 0, 1) := by decide +kernel
theorem d_law_755 : decode m_law.2.1 755 = .ok (.iload_n 3, 1) := by decide +kernel
theorem d_law_756 : decode m_law.2.1 756 = .ok (.iconst 3, 1) := by decide +kernel
theorem d_law_757 : decode m_law.2.1 757 = .ok (.iadd, 1) := by decide +kernel
theorem d_law_758 : decode m_law.2.1 758 = .ok (.iaload, 1) := by decide +kernel
theorem d_law_759 : decode m_law.2.1 759 = .ok (.aload_n 0, 1) := by decide +kernel
theorem d_law_760 : decode m_law.2.1 760 = .ok (.iload_n 3, 1) := by decide +kernel
theorem d_law_761 : decode m_law.2.1 761 = .ok (.iconst 4, 1) := by decide +kernel
theorem d_law_762 : decode m_law.2.1 762 = .ok (.iadd, 1) := by decide +kernel
theorem d_law_763 : decode m_law.2.1 763 = .ok (.iaload, 1) := by decide +kernel
theorem d_law_764 : decode m_law.2.1 764 = .ok (.invokevirtual 87, 3) := by decide +kernel
theorem d_law_767 : decode m_law.2.1 767 = .ok (.aload_n 2, 1) := by decide +kernel
theorem d_law_768 : decode m_law.2.1 768 = .ok (.aload_n 0, 1) := by decide +kernel
theorem d_law_769 : decode m_law.2.1 769 = .ok (.iload_n 3, 1) := by decide +kernel
theorem d_law_770 : decode m_law.2.1 770 = .ok (.iconst 1, 1) := by decide +kernel
theorem d_law_771 : decode m_law.2.1 771 = .ok (.iadd, 1) := by decide +kernel
theorem d_law_772 : decode m_law.2.1 772 = .ok (.iaload, 1) := by decide +kernel
theorem d_law_773 : decode m_law.2.1 773 = .ok (.aload_n 0, 1) := by decide +kernel
theorem d_law_774 : decode m_law.2.1 774 = .ok (.iload_n 3, 1) := by decide +kernel
theorem d_law_775 : decode m_law.2.1 775 = .ok (.iconst 2, 1) := by decide +kernel
theorem d_law_776 : decode m_law.2.1 776 = .ok (.iadd, 1) := by decide +kernel
theorem d_law_777 : decode m_law.2.1 777 = .ok (.iaload, 1) := by decide +kernel
theorem d_law_778 : decode m_law.2.1 778 = .ok (.aload_n 0, 1) := by decide +kernel
theorem d_law_779 : decode m_law.2.1 779 = .ok (.iload_n 3, 1) := by decide +kernel
theorem d_law_780 : decode m_law.2.1 780 = .ok (.iconst 3, 1) := by decide +kernel
theorem d_law_781 : decode m_law.2.1 781 = .ok (.iadd, 1) := by decide +kernel
theorem d_law_782 : decode m_law.2.1 782 = .ok (.iaload, 1) := by decide +kernel
theorem d_law_783 : decode m_law.2.1 783 = .ok (.aload_n 0, 1) := by decide +kernel
theorem d_law_784 : decode m_law.2.1 784 = .ok (.iload_n 3, 1) := by decide +kernel
theorem d_law_785 : decode m_law.2.1 785 = .ok (.iconst 4, 1) := by decide +kernel
theorem d_law_786 : decode m_law.2.1 786 = .ok (.iadd, 1) := by decide +kernel
theorem d_law_787 : decode m_law.2.1 787 = .ok (.iaload, 1) := by decide +kernel
theorem d_law_788 : decode m_law.2.1 788 = .ok (.invokevirtual 91, 3) := by decide +kernel
theorem d_law_791 : decode m_law.2.1 791 = .ok (.if_icmp .eq 137, 3) := by decide +kernel
theorem d_law_794 : decode m_law.2.1 794 = .ok (.iconst 0, 1) := by decide +kernel
theorem d_law_795 : decode m_law.2.1 795 = .ok (.ireturn, 1) := by decide +kernel
theorem d_law_796 : decode m_law.2.1 796 = .ok (.aload_n 1, 1) := by decide +kernel
theorem d_law_797 : decode m_law.2.1 797 = .ok (.aload_n 0, 1) := by decide +kernel
theorem d_law_798 : decode m_law.2.1 798 = .ok (.iload_n 3, 1) := by decide +kernel
theorem d_law_799 : decode m_law.2.1 799 = .ok (.iconst 1, 1) := by decide +kernel
theorem d_law_800 : decode m_law.2.1 800 = .ok (.iadd, 1) := by decide +kernel
theorem d_law_801 : decode m_law.2.1 801 = .ok (.iaload, 1) := by decide +kernel
theorem d_law_802 : decode m_law.2.1 802 = .ok (.aload_n 0, 1) := by decide +kernel
theorem d_law_803 : decode m_law.2.1 803 = .ok (.iload_n 3, 1) := by decide +kernel
theorem d_law_804 : decode m_law.2.1 804 = .ok (.iconst 2, 1) := by decide +kernel
theorem d_law_805 : decode m_law.2.1 805 = .ok (.iadd, 1) := by decide +kernel
theorem d_law_806 : decode m_law.2.1 806 = .ok (.iaload, 1) := by decide +kernel
theorem d_law_807 : decode m_law.2.1 807 = .ok (.invokevirtual 92, 3) := by decide +kernel
theorem d_law_810 : decode m_law.2.1 810 = .ok (.aload_n 2, 1) := by decide +kernel
theorem d_law_811 : decode m_law.2.1 811 = .ok (.aload_n 0, 1) := by decide +kernel
theorem d_law_812 : decode m_law.2.1 812 = .ok (.iload_n 3, 1) := by decide +kernel
theorem d_law_813 : decode m_law.2.1 813 = .ok (.iconst 1, 1) := by decide +kernel
theorem d_law_814 : decode m_law.2.1 814 = .ok (.iadd, 1) := by decide +kernel
theorem d_law_815 : decode m_law.2.1 815 = .ok (.iaload, 1) := by decide +kernel
theorem d_law_816 : decode m_law.2.1 816 = .ok (.aload_n 0, 1) := by decide +kernel
theorem d_law_817 : decode m_law.2.1 817 = .ok (.iload_n 3, 1) := by decide +kernel
theorem d_law_818 : decode m_law.2.1 818 = .ok (.iconst 2, 1) := by decide +kernel
theorem d_law_819 : decode m_law.2.1 819 = .ok (.iadd, 1) := by decide +kernel
theorem d_law_820 : decode m_law.2.1 820 = .ok (.iaload, 1) := by decide +kernel
theorem d_law_821 : decode m_law.2.1 821 = .ok (.invokevirtual 95, 3) := by decide +kernel
theorem d_law_824 : decode m_law.2.1 824 = .ok (.if_icmp .eq 104, 3) := by decide +kernel
theorem d_law_827 : decode m_law.2.1 827 = .ok (.iconst 0, 1) := by decide +kernel
theorem d_law_828 : decode m_law.2.1 828 = .ok (.ireturn, 1) := by decide +kernel
theorem d_law_829 : decode m_law.2.1 829 = .ok (.aload_n 1, 1) := by decide +kernel
theorem d_law_830 : decode m_law.2.1 830 = .ok (.aload_n 0, 1) := by decide +kernel
theorem d_law_831 : decode m_law.2.1 831 = .ok (.iload_n 3, 1) := by decide +kernel
theorem d_law_832 : decode m_law.2.1 832 = .ok (.iconst 1, 1) := by decide +kernel
theorem d_law_833 : decode m_law.2.1 833 = .ok (.iadd, 1) := by decide +kernel
theorem d_law_834 : decode m_law.2.1 834 = .ok (.iaload, 1) := by decide +kernel
theorem d_law_835 : decode m_law.2.1 835 = .ok (.invokevirtual 96, 3) := by decide +kernel
theorem d_law_838 : decode m_law.2.1 838 = .ok (.aload_n 2, 1) := by decide +kernel
theorem d_law_839 : decode m_law.2.1 839 = .ok (.aload_n 0, 1) := by decide +kernel
theorem d_law_840 : decode m_law.2.1 840 = .ok (.iload_n 3, 1) := by decide +kernel
theorem d_law_841 : decode m_law.2.1 841 = .ok (.iconst 1, 1) := by decide +kernel
theorem d_law_842 : decode m_law.2.1 842 = .ok (.iadd, 1) := by decide +kernel
theorem d_law_843 : decode m_law.2.1 843 = .ok (.iaload, 1) := by decide +kernel
theorem d_law_844 : decode m_law.2.1 844 = .ok (.invokevirtual 99, 3) := by decide +kernel
theorem d_law_847 : decode m_law.2.1 847 = .ok (.if_icmp .eq 81, 3) := by decide +kernel
theorem d_law_850 : decode m_law.2.1 850 = .ok (.iconst 0, 1) := by decide +kernel
theorem d_law_851 : decode m_law.2.1 851 = .ok (.ireturn, 1) := by decide +kernel
theorem d_law_852 : decode m_law.2.1 852 = .ok (.aload_n 1, 1) := by decide +kernel
theorem d_law_853 : decode m_law.2.1 853 = .ok (.aload_n 0, 1) := by decide +kernel
theorem d_law_854 : decode m_law.2.1 854 = .ok (.iload_n 3, 1) := by decide +kernel
theorem d_law_855 : decode m_law.2.1 855 = .ok (.iconst 1, 1) := by decide +kernel
theorem d_law_856 : decode m_law.2.1 856 = .ok (.iadd, 1) := by decide +kernel
theorem d_law_857 : decode m_law.2.1 857 = .ok (.iaload, 1) := by decide +kernel
theorem d_law_858 : decode m_law.2.1 858 = .ok (.invokevirtual 100, 3) := by decide +kernel
theorem d_law_861 : decode m_law.2.1 861 = .ok (.aload_n 2, 1) := by decide +kernel
theorem d_law_862 : decode m_law.2.1 862 = .ok (.aload_n 0, 1) := by decide +kernel
theorem d_law_863 : decode m_law.2.1 863 = .ok (.iload_n 3, 1) := by decide +kernel
theorem d_law_864 : decode m_law.2.1 864 = .ok (.iconst 1, 1) := by decide +kernel
theorem d_law_865 : decode m_law.2.1 865 = .ok (.iadd, 1) := by decide +kernel
theorem d_law_866 : decode m_law.2.1 866 = .ok (.iaload, 1) := by decide +kernel
theorem d_law_867 : decode m_law.2.1 867 = .ok (.invokevirtual 103, 3) := by decide +kernel
theorem d_law_870 : decode m_law.2.1 870 = .ok (.if_icmp .eq 58, 3) := by decide +kernel
theorem d_law_873 : decode m_law.2.1 873 = .ok (.iconst 0, 1) := by decide +kernel
theorem d_law_874 : decode m_law.2.1 874 = .ok (.ireturn, 1) := by decide +kernel
theorem d_law_875 : decode m_law.2.1 875 = .ok (.aload_n 1, 1) := by decide +kernel
theorem d_law_876 : decode m_law.2.1 876 = .ok (.aload_n 0, 1) := by decide +kernel
theorem d_law_877 : decode m_law.2.1 877 = .ok (.iload_n 3, 1) := by decide +kernel
theorem d_law_878 : decode m_law.2.1 878 = .ok (.iconst 1, 1) := by decide +kernel
theorem d_law_879 : decode m_law.2.1 879 = .ok (.iadd, 1) := by decide +kernel
theorem d_law_880 : decode m_law.2.1 880 = .ok (.iaload, 1) := by decide +kernel
theorem d_law_881 : decode m_law.2.1 881 = .ok (.aload_n 0, 1) := by decide +kernel
theorem d_law_882 : decode m_law.2.1 882 = .ok (.iload_n 3, 1) := by decide +kernel
theorem d_law_883 : decode m_law.2.1 883 = .ok (.iconst 2, 1) := by decide +kernel
theorem d_law_884 : decode m_law.2.1 884 = .ok (.iadd, 1) := by decide +kernel
theorem d_law_885 : decode m_law.2.1 885 = .ok (.iaload, 1) := by decide +kernel
theorem d_law_886 : decode m_law.2.1 886 = .ok (.aload_n 0, 1) := by decide +kernel
theorem d_law_887 : decode m_law.2.1 887 = .ok (.iload_n 3, 1) := by decide +kernel
theorem d_law_888 : decode m_law.2.1 888 = .ok (.iconst 3, 1) := by decide +kernel
theorem d_law_889 : decode m_law.2.1 889 = .ok (.iadd, 1) := by decide +kernel
theorem d_law_890 : decode m_law.2.1 890 = .ok (.iaload, 1) := by decide +kernel
theorem d_law_891 : decode m_law.2.1 891 = .ok (.aload_n 0, 1) := by decide +kernel
theorem d_law_892 : decode m_law.2.1 892 = .ok (.iload_n 3, 1) := by decide +kernel
theorem d_law_893 : decode m_law.2.1 893 = .ok (.iconst 4, 1) := by decide +kernel
theorem d_law_894 : decode m_law.2.1 894 = .ok (.iadd, 1) := by decide +kernel
theorem d_law_895 : decode m_law.2.1 895 = .ok (.iaload, 1) := by decide +kernel
theorem d_law_896 : decode m_law.2.1 896 = .ok (.invokevirtual 104, 3) := by decide +kernel
theorem d_law_899 : decode m_law.2.1 899 = .ok (.aload_n 2, 1) := by decide +kernel
theorem d_law_900 : decode m_law.2.1 900 = .ok (.aload_n 0, 1) := by decide +kernel
theorem d_law_901 : decode m_law.2.1 901 = .ok (.iload_n 3, 1) := by decide +kernel
theorem d_law_902 : decode m_law.2.1 902 = .ok (.iconst 1, 1) := by decide +kernel
theorem d_law_903 : decode m_law.2.1 903 = .ok (.iadd, 1) := by decide +kernel
theorem d_law_904 : decode m_law.2.1 904 = .ok (.iaload, 1) := by decide +kernel
theorem d_law_905 : decode m_law.2.1 905 = .ok (.aload_n 0, 1) := by decide +kernel
theorem d_law_906 : decode m_law.2.1 906 = .ok (.iload_n 3, 1) := by decide +kernel
theorem d_law_907 : decode m_law.2.1 907 = .ok (.iconst 2, 1) := by decide +kernel
theorem d_law_908 : decode m_law.2.1 908 = .ok (.iadd, 1) := by decide +kernel
theorem d_law_909 : decode m_law.2.1 909 = .ok (.iaload, 1) := by decide +kernel
theorem d_law_910 : decode m_law.2.1 910 = .ok (.aload_n 0, 1) := by decide +kernel
theorem d_law_911 : decode m_law.2.1 911 = .ok (.iload_n 3, 1) := by decide +kernel
theorem d_law_912 : decode m_law.2.1 912 = .ok (.iconst 3, 1) := by decide +kernel
theorem d_law_913 : decode m_law.2.1 913 = .ok (.iadd, 1) := by decide +kernel
theorem d_law_914 : decode m_law.2.1 914 = .ok (.iaload, 1) := by decide +kernel
theorem d_law_915 : decode m_law.2.1 915 = .ok (.aload_n 0, 1) := by decide +kernel
theorem d_law_916 : decode m_law.2.1 916 = .ok (.iload_n 3, 1) := by decide +kernel
theorem d_law_917 : decode m_law.2.1 917 = .ok (.iconst 4, 1) := by decide +kernel
theorem d_law_918 : decode m_law.2.1 918 = .ok (.iadd, 1) := by decide +kernel
theorem d_law_919 : decode m_law.2.1 919 = .ok (.iaload, 1) := by decide +kernel
theorem d_law_920 : decode m_law.2.1 920 = .ok (.invokevirtual 107, 3) := by decide +kernel
theorem d_law_923 : decode m_law.2.1 923 = .ok (.if_icmp .eq 5, 3) := by decide +kernel
theorem d_law_926 : decode m_law.2.1 926 = .ok (.iconst 0, 1) := by decide +kernel
theorem d_law_927 : decode m_law.2.1 927 = .ok (.ireturn, 1) := by decide +kernel
theorem d_law_928 : decode m_law.2.1 928 = .ok (.iinc 3 6, 3) := by decide +kernel
theorem d_law_931 : decode m_law.2.1 931 = .ok (.goto (-913), 3) := by decide +kernel
theorem d_law_934 : decode m_law.2.1 934 = .ok (.iconst 1, 1) := by decide +kernel
theorem d_law_935 : decode m_law.2.1 935 = .ok (.ireturn, 1) := by decide +kernel
