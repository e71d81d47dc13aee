theorem d_LW_law_0 : decode b_LW_law 0 = .ok (.new 7, 3) := by decide +kernel
theorem d_LW_law_3 : decode b_LW_law 3 = .ok (.dup, 1) := by decide +kernel
theorem d_LW_law_4 : decode b_LW_law 4 = .ok (.invokespecial 9, 3) := by decide +kernel
theorem d_LW_law_7 : decode b_LW_law 7 = .ok (.astore_n 1, 1) := by decide +kernel
theorem d_LW_law_8 : decode b_LW_law 8 = .ok (.new 10, 3) := by decide +kernel
theorem d_LW_law_11 : decode b_LW_law 11 = .ok (.dup, 1) := by decide +kernel
theorem d_LW_law_12 : decode b_LW_law 12 = .ok (.invokespecial 12, 3) := by decide +kernel
theorem d_LW_law_15 : decode b_LW_law 15 = .ok (.astore_n 2, 1) := by decide +kernel
theorem d_LW_law_16 : decode b_LW_law 16 = .ok (.iconst 0, 1) := by decide +kernel
theorem d_LW_law_17 : decode b_LW_law 17 = .ok (.istore_n 3, 1) := by decide +kernel
theorem d_LW_law_18 : decode b_LW_law 18 = .ok (.iload_n 3, 1) := by decide +kernel
theorem d_LW_law_19 : decode b_LW_law 19 = .ok (.aload_n 0, 1) := by decide +kernel
theorem d_LW_law_20 : decode b_LW_law 20 = .ok (.arraylength, 1) := by decide +kernel
theorem d_LW_law_21 : decode b_LW_law 21 = .ok (.iconst 5, 1) := by decide +kernel
theorem d_LW_law_22 : decode b_LW_law 22 = .ok (.isub, 1) := by decide +kernel
theorem d_LW_law_23 : decode b_LW_law 23 = .ok (.if_icmp .gt 631, 3) := by decide +kernel
theorem d_LW_law_26 : decode b_LW_law 26 = .ok (.aload_n 0, 1) := by decide +kernel
theorem d_LW_law_27 : decode b_LW_law 27 = .ok (.iload_n 3, 1) := by decide +kernel
theorem d_LW_law_28 : decode b_LW_law 28 = .ok (.iaload, 1) := by decide +kernel
theorem d_LW_law_29 : decode b_LW_law 29 = .ok (.bipush 31, 2) := by decide +kernel
theorem d_LW_law_31 : decode b_LW_law 31 = .ok (.iand, 1) := by decide +kernel
theorem d_LW_law_32 : decode b_LW_law 32 = .ok (.tableswitch 616 0 19 #[96, 119, 172, 215, 258, 311, 364, 397, 410, 423, 436, 449, 472, 485, 508, 551, 564, 577, 590, 603], 96) := by decide +kernel
theorem d_LW_law_128 : decode b_LW_law 128 = .ok (.aload_n 1, 1) := by decide +kernel
theorem d_LW_law_129 : decode b_LW_law 129 = .ok (.aload_n 0, 1) := by decide +kernel
theorem d_LW_law_130 : decode b_LW_law 130 = .ok (.iload_n 3, 1) := by decide +kernel
theorem d_LW_law_131 : decode b_LW_law 131 = .ok (.iconst 1, 1) := by decide +kernel
theorem d_LW_law_132 : decode b_LW_law 132 = .ok (.iadd, 1) := by decide +kernel
theorem d_LW_law_133 : decode b_LW_law 133 = .ok (.iaload, 1) := by decide +kernel
theorem d_LW_law_134 : decode b_LW_law 134 = .ok (.invokevirtual 13, 3) := by decide +kernel
theorem d_LW_law_137 : decode b_LW_law 137 = .ok (.aload_n 2, 1) := by decide +kernel
theorem d_LW_law_138 : decode b_LW_law 138 = .ok (.aload_n 0, 1) := by decide +kernel
theorem d_LW_law_139 : decode b_LW_law 139 = .ok (.iload_n 3, 1) := by decide +kernel
theorem d_LW_law_140 : decode b_LW_law 140 = .ok (.iconst 1, 1) := by decide +kernel
theorem d_LW_law_141 : decode b_LW_law 141 = .ok (.iadd, 1) := by decide +kernel
theorem d_LW_law_142 : decode b_LW_law 142 = .ok (.iaload, 1) := by decide +kernel
theorem d_LW_law_143 : decode b_LW_law 143 = .ok (.invokevirtual 17, 3) := by decide +kernel
theorem d_LW_law_146 : decode b_LW_law 146 = .ok (.if_icmp .eq 502, 3) := by decide +kernel
theorem d_LW_law_149 : decode b_LW_law 149 = .ok (.iconst 0, 1) := by decide +kernel
theorem d_LW_law_150 : decode b_LW_law 150 = .ok (.ireturn, 1) := by decide +kernel
theorem d_LW_law_151 : decode b_LW_law 151 = .ok (.aload_n 1, 1) := by decide +kernel
theorem d_LW_law_152 : decode b_LW_law 152 = .ok (.aload_n 0, 1) := by decide +kernel
theorem d_LW_law_153 : decode b_LW_law 153 = .ok (.iload_n 3, 1) := by decide +kernel
theorem d_LW_law_154 : decode b_LW_law 154 = .ok (.iconst 1, 1) := by decide +kernel
theorem d_LW_law_155 : decode b_LW_law 155 = .ok (.iadd, 1) := by decide +kernel
theorem d_LW_law_156 : decode b_LW_law 156 = .ok (.iaload, 1) := by decide +kernel
theorem d_LW_law_157 : decode b_LW_law 157 = .ok (.aload_n 0, 1) := by decide +kernel
theorem d_LW_law_158 : decode b_LW_law 158 = .ok (.iload_n 3, 1) := by decide +kernel
theorem d_LW_law_159 : decode b_LW_law 159 = .ok (.iconst 2, 1) := by decide +kernel
theorem d_LW_law_160 : decode b_LW_law 160 = .ok (.iadd, 1) := by decide +kernel
theorem d_LW_law_161 : decode b_LW_law 161 = .ok (.iaload, 1) := by decide +kernel
theorem d_LW_law_162 : decode b_LW_law 162 = .ok (.aload_n 0, 1) := by decide +kernel
theorem d_LW_law_163 : decode b_LW_law 163 = .ok (.iload_n 3, 1) := by decide +kernel
theorem d_LW_law_164 : decode b_LW_law 164 = .ok (.iconst 3, 1) := by decide +kernel
theorem d_LW_law_165 : decode b_LW_law 165 = .ok (.iadd, 1) := by decide +kernel
theorem d_LW_law_166 : decode b_LW_law 166 = .ok (.iaload, 1) := by decide +kernel
theorem d_LW_law_167 : decode b_LW_law 167 = .ok (.aload_n 0, 1) := by decide +kernel
theorem d_LW_law_168 : decode b_LW_law 168 = .ok (.iload_n 3, 1) := by decide +kernel
theorem d_LW_law_169 : decode b_LW_law 169 = .ok (.iconst 4, 1) := by decide +kernel
theorem d_LW_law_170 : decode b_LW_law 170 = .ok (.iadd, 1) := by decide +kernel
theorem d_LW_law_171 : decode b_LW_law 171 = .ok (.iaload, 1) := by decide +kernel
theorem d_LW_law_172 : decode b_LW_law 172 = .ok (.invokevirtual 18, 3) := by decide +kernel
theorem d_LW_law_175 : decode b_LW_law 175 = .ok (.aload_n 2, 1) := by decide +kernel
theorem d_LW_law_176 : decode b_LW_law 176 = .ok (.aload_n 0, 1) := by decide +kernel
theorem d_LW_law_177 : decode b_LW_law 177 = .ok (.iload_n 3, 1) := by decide +kernel
theorem d_LW_law_178 : decode b_LW_law 178 = .ok (.iconst 1, 1) := by decide +kernel
theorem d_LW_law_179 : decode b_LW_law 179 = .ok (.iadd, 1) := by decide +kernel
theorem d_LW_law_180 : decode b_LW_law 180 = .ok (.iaload, 1) := by decide +kernel
theorem d_LW_law_181 : decode b_LW_law 181 = .ok (.aload_n 0, 1) := by decide +kernel
theorem d_LW_law_182 : decode b_LW_law 182 = .ok (.iload_n 3, 1) := by decide +kernel
theorem d_LW_law_183 : decode b_LW_law 183 = .ok (.iconst 2, 1) := by decide +kernel
theorem d_LW_law_184 : decode b_LW_law 184 = .ok (.iadd, 1) := by decide +kernel
theorem d_LW_law_185 : decode b_LW_law 185 = .ok (.iaload, 1) := by decide +kernel
theorem d_LW_law_186 : decode b_LW_law 186 = .ok (.aload_n 0, 1) := by decide +kernel
theorem d_LW_law_187 : decode b_LW_law 187 = .ok (.iload_n 3, 1) := by decide +kernel
theorem d_LW_law_188 : decode b_LW_law 188 = .ok (.iconst 3, 1) := by decide +kernel
theorem d_LW_law_189 : decode b_LW_law 189 = .ok (.iadd, 1) := by decide +kernel
theorem d_LW_law_190 : decode b_LW_law 190 = .ok (.iaload, 1) := by decide +kernel
theorem d_LW_law_191 : decode b_LW_law 191 = .ok (.aload_n 0, 1) := by decide +kernel
theorem d_LW_law_192 : decode b_LW_law 192 = .ok (.iload_n 3, 1) := by decide +kernel
theorem d_LW_law_193 : decode b_LW_law 193 = .ok (.iconst 4, 1) := by decide +kernel
theorem d_LW_law_194 : decode b_LW_law 194 = .ok (.iadd, 1) := by decide +kernel
theorem d_LW_law_195 : decode b_LW_law 195 = .ok (.iaload, 1) := by decide +kernel
theorem d_LW_law_196 : decode b_LW_law 196 = .ok (.invokevirtual 22, 3) := by decide +kernel
theorem d_LW_law_199 : decode b_LW_law 199 = .ok (.if_icmp .eq 449, 3) := by decide +kernel
theorem d_LW_law_202 : decode b_LW_law 202 = .ok (.iconst 0, 1) := by decide +kernel
theorem d_LW_law_203 : decode b_LW_law 203 = .ok (.ireturn, 1) := by decide +kernel
theorem d_LW_law_204 : decode b_LW_law 204 = .ok (.aload_n 1, 1) := by decide +kernel
theorem d_LW_law_205 : decode b_LW_law 205 = .ok (.aload_n 0, 1) := by decide +kernel
theorem d_LW_law_206 : decode b_LW_law 206 = .ok (.iload_n 3, 1) := by decide +kernel
theorem d_LW_law_207 : decode b_LW_law 207 = .ok (.iconst 1, 1) := by decide +kernel
theorem d_LW_law_208 : decode b_LW_law 208 = .ok (.iadd, 1) := by decide +kernel
theorem d_LW_law_209 : decode b_LW_law 209 = .ok (.iaload, 1) := by decide +kernel
theorem d_LW_law_210 : decode b_LW_law 210 = .ok (.aload_n 0, 1) := by decide +kernel
theorem d_LW_law_211 : decode b_LW_law 211 = .ok (.iload_n 3, 1) := by decide +kernel
theorem d_LW_law_212 : decode b_LW_law 212 = .ok (.iconst 2, 1) := by decide +kernel
theorem d_LW_law_213 : decode b_LW_law 213 = .ok (.iadd, 1) := by decide +kernel
theorem d_LW_law_214 : decode b_LW_law 214 = .ok (.iaload, 1) := by decide +kernel
theorem d_LW_law_215 : decode b_LW_law 215 = .ok (.aload_n 0, 1) := by decide +kernel
theorem d_LW_law_216 : decode b_LW_law 216 = .ok (.iload_n 3, 1) := by decide +kernel
theorem d_LW_law_217 : decode b_LW_law 217 = .ok (.iconst 3, 1) := by decide +kernel
theorem d_LW_law_218 : decode b_LW_law 218 = .ok (.iadd, 1) := by decide +kernel
theorem d_LW_law_219 : decode b_LW_law 219 = .ok (.iaload, 1) := by decide +kernel
theorem d_LW_law_220 : decode b_LW_law 220 = .ok (.invokevirtual 23, 3) := by decide +kernel
theorem d_LW_law_223 : decode b_LW_law 223 = .ok (.aload_n 2, 1) := by decide +kernel
theorem d_LW_law_224 : decode b_LW_law 224 = .ok (.aload_n 0, 1) := by decide +kernel
theorem d_LW_law_225 : decode b_LW_law 225 = .ok (.iload_n 3, 1) := by decide +kernel
theorem d_LW_law_226 : decode b_LW_law 226 = .ok (.iconst 1, 1) := by decide +kernel
theorem d_LW_law_227 : decode b_LW_law 227 = .ok (.iadd, 1) := by decide +kernel
theorem d_LW_law_228 : decode b_LW_law 228 = .ok (.iaload, 1) := by decide +kernel
theorem d_LW_law_229 : decode b_LW_law 229 = .ok (.aload_n 0, 1) := by decide +kernel
theorem d_LW_law_230 : decode b_LW_law 230 = .ok (.iload_n 3, 1) := by decide +kernel
theorem d_LW_law_231 : decode b_LW_law 231 = .ok (.iconst 2, 1) := by decide +kernel
theorem d_LW_law_232 : decode b_LW_law 232 = .ok (.iadd, 1) := by decide +kernel
theorem d_LW_law_233 : decode b_LW_law 233 = .ok (.iaload, 1) := by decide +kernel
theorem d_LW_law_234 : decode b_LW_law 234 = .ok (.aload_n 0, 1) := by decide +kernel
theorem d_LW_law_235 : decode b_LW_law 235 = .ok (.iload_n 3, 1) := by decide +kernel
theorem d_LW_law_236 : decode b_LW_law 236 = .ok (.iconst 3, 1) := by decide +kernel
theorem d_LW_law_237 : decode b_LW_law 237 = .ok (.iadd, 1) := by decide +kernel
theorem d_LW_law_238 : decode b_LW_law 238 = .ok (.iaload, 1) := by decide +kernel
theorem d_LW_law_239 : decode b_LW_law 239 = .ok (.invokevirtual 27, 3) := by decide +kernel
theorem d_LW_law_242 : decode b_LW_law 242 = .ok (.if_icmp .eq 406, 3) := by decide +kernel
theorem d_LW_law_245 : decode b_LW_law 245 = .ok (.iconst 0, 1) := by decide +kernel
theorem d_LW_law_246 : decode b_LW_law 246 = .ok (.ireturn, 1) := by decide +kernel
theorem d_LW_law_247 : decode b_LW_law 247 = .ok (.aload_n 1, 1) := by decide +kernel
theorem d_LW_law_248 : decode b_LW_law 248 = .ok (.aload_n 0, 1) := by decide +kernel
theorem d_LW_law_249 : decode b_LW_law 249 = .ok (.iload_n 3, 1) := by decide +kernel
theorem d_LW_law_250 : decode b_LW_law 250 = .ok (.iconst 1, 1) := by decide +kernel
theorem d_LW_law_251 : decode b_LW_law 251 = .ok (.iadd, 1) := by decide +kernel
theorem d_LW_law_252 : decode b_LW_law 252 = .ok (.iaload, 1) := by decide +kernel
theorem d_LW_law_253 : decode b_LW_law 253 = .ok (.aload_n 0, 1) := by decide +kernel
theorem d_LW_law_254 : decode b_LW_law 254 = .ok (.iload_n 3, 1) := by decide +kernel
theorem d_LW_law_255 : decode b_LW_law 255 = .ok (.iconst 2, 1) := by decide +kernel
theorem d_LW_law_256 : decode b_LW_law 256 = .ok (.iadd, 1) := by decide +kernel
theorem d_LW_law_257 : decode b_LW_law 257 = .ok (.iaload, 1) := by decide +kernel
theorem d_LW_law_258 : decode b_LW_law 258 = .ok (.aload_n 0, 1) := by decide +kernel
theorem d_LW_law_259 : decode b_LW_law 259 = .ok (.iload_n 3, 1) := by decide +kernel
theorem d_LW_law_260 : decode b_LW_law 260 = .ok (.iconst 3, 1) := by decide +kernel
theorem d_LW_law_261 : decode b_LW_law 261 = .ok (.iadd, 1) := by decide +kernel
theorem d_LW_law_262 : decode b_LW_law 262 = .ok (.iaload, 1) := by decide +kernel
theorem d_LW_law_263 : decode b_LW_law 263 = .ok (.invokevirtual 28, 3) := by decide +kernel
theorem d_LW_law_266 : decode b_LW_law 266 = .ok (.aload_n 2, 1) := by decide +kernel
theorem d_LW_law_267 : decode b_LW_law 267 = .ok (.aload_n 0, 1) := by decide +kernel
theorem d_LW_law_268 : decode b_LW_law 268 = .ok (.iload_n 3, 1) := by decide +kernel
theorem d_LW_law_269 : decode b_LW_law 269 = .ok (.iconst 1, 1) := by decide +kernel
theorem d_LW_law_270 : decode b_LW_law 270 = .ok (.iadd, 1) := by decide +kernel
theorem d_LW_law_271 : decode b_LW_law 271 = .ok (.iaload, 1) := by decide +kernel
theorem d_LW_law_272 : decode b_LW_law 272 = .ok (.aload_n 0, 1) := by decide +kernel
theorem d_LW_law_273 : decode b_LW_law 273 = .ok (.iload_n 3, 1) := by decide +kernel
theorem d_LW_law_274 : decode b_LW_law 274 = .ok (.iconst 2, 1) := by decide +kernel
theorem d_LW_law_275 : decode b_LW_law 275 = .ok (.iadd, 1) := by decide +kernel
theorem d_LW_law_276 : decode b_LW_law 276 = .ok (.iaload, 1) := by decide +kernel
theorem d_LW_law_277 : decode b_LW_law 277 = .ok (.aload_n 0, 1) := by decide +kernel
theorem d_LW_law_278 : decode b_LW_law 278 = .ok (.iload_n 3, 1) := by decide +kernel
theorem d_LW_law_279 : decode b_LW_law 279 = .ok (.iconst 3, 1) := by decide +kernel
theorem d_LW_law_280 : decode b_LW_law 280 = .ok (.iadd, 1) := by decide +kernel
theorem d_LW_law_281 : decode b_LW_law 281 = .ok (.iaload, 1) := by decide +kernel
theorem d_LW_law_282 : decode b_LW_law 282 = .ok (.invokevirtual 31, 3) := by decide +kernel
theorem d_LW_law_285 : decode b_LW_law 285 = .ok (.if_icmp .eq 363, 3) := by decide +kernel
theorem d_LW_law_288 : decode b_LW_law 288 = .ok (.iconst 0, 1) := by decide +kernel
theorem d_LW_law_289 : decode b_LW_law 289 = .ok (.ireturn, 1) := by decide +kernel
theorem d_LW_law_290 : decode b_LW_law 290 = .ok (.aload_n 1, 1) := by decide +kernel
theorem d_LW_law_291 : decode b_LW_law 291 = .ok (.aload_n 0, 1) := by decide +kernel
theorem d_LW_law_292 : decode b_LW_law 292 = .ok (.iload_n 3, 1) := by decide +kernel
theorem d_LW_law_293 : decode b_LW_law 293 = .ok (.iconst 1, 1) := by decide +kernel
theorem d_LW_law_294 : decode b_LW_law 294 = .ok (.iadd, 1) := by decide +kernel
theorem d_LW_law_295 : decode b_LW_law 295 = .ok (.iaload, 1) := by decide +kernel
theorem d_LW_law_296 : decode b_LW_law 296 = .ok (.aload_n 0, 1) := by decide +kernel
theorem d_LW_law_297 : decode b_LW_law 297 = .ok (.iload_n 3, 1) := by decide +kernel
theorem d_LW_law_298 : decode b_LW_law 298 = .ok (.iconst 2, 1) := by decide +kernel
theorem d_LW_law_299 : decode b_LW_law 299 = .ok (.iadd, 1) := by decide +kernel
theorem d_LW_law_300 : decode b_LW_law 300 = .ok (.iaload, 1) := by decide +kernel
theorem d_LW_law_301 : decode b_LW_law 301 = .ok (.aload_n 0, 1) := by decide +kernel
theorem d_LW_law_302 : decode b_LW_law 302 = .ok (.iload_n 3, 1) := by decide +kernel
theorem d_LW_law_303 : decode b_LW_law 303 = .ok (.iconst 3, 1) := by decide +kernel
theorem d_LW_law_304 : decode b_LW_law 304 = .ok (.iadd, 1) := by decide +kernel
theorem d_LW_law_305 : decode b_LW_law 305 = .ok (.iaload, 1) := by decide +kernel
theorem d_LW_law_306 : decode b_LW_law 306 = .ok (.aload_n 0, 1) := by decide +kernel
theorem d_LW_law_307 : decode b_LW_law 307 = .ok (.iload_n 3, 1) := by decide +kernel
theorem d_LW_law_308 : decode b_LW_law 308 = .ok (.iconst 4, 1) := by decide +kernel
theorem d_LW_law_309 : decode b_LW_law 309 = .ok (.iadd, 1) := by decide +kernel
theorem d_LW_law_310 : decode b_LW_law 310 = .ok (.iaload, 1) := by decide +kernel
theorem d_LW_law_311 : decode b_LW_law 311 = .ok (.invokevirtual 32, 3) := by decide +kernel
theorem d_LW_law_314 : decode b_LW_law 314 = .ok (.aload_n 2, 1) := by decide +kernel
theorem d_LW_law_315 : decode b_LW_law 315 = .ok (.aload_n 0, 1) := by decide +kernel
theorem d_LW_law_316 : decode b_LW_law 316 = .ok (.iload_n 3, 1) := by decide +kernel
theorem d_LW_law_317 : decode b_LW_law 317 = .ok (.iconst 1, 1) := by decide +kernel
theorem d_LW_law_318 : decode b_LW_law 318 = .ok (.iadd, 1) := by decide +kernel
theorem d_LW_law_319 : decode b_LW_law 319 = .ok (.iaload, 1) := by decide +kernel
theorem d_LW_law_320 : decode b_LW_law 320 = .ok (.aload_n 0, 1) := by decide +kernel
theorem d_LW_law_321 : decode b_LW_law 321 = .ok (.iload_n 3, 1) := by decide +kernel
theorem d_LW_law_322 : decode b_LW_law 322 = .ok (.iconst 2, 1) := by decide +kernel
theorem d_LW_law_323 : decode b_LW_law 323 = .ok (.iadd, 1) := by decide +kernel
theorem d_LW_law_324 : decode b_LW_law 324 = .ok (.iaload, 1) := by decide +kernel
theorem d_LW_law_325 : decode b_LW_law 325 = .ok (.aload_n 0, 1) := by decide +kernel
theorem d_LW_law_326 : decode b_LW_law 326 = .ok (.iload_n 3, 1) := by decide +kernel
theorem d_LW_law_327 : decode b_LW_law 327 = .ok (.iconst 3, 1) := by decide +kernel
theorem d_LW_law_328 : decode b_LW_law 328 = .ok (.iadd, 1) := by decide +kernel
theorem d_LW_law_329 : decode b_LW_law 329 = .ok (.iaload, 1) := by decide +kernel
theorem d_LW_law_330 : decode b_LW_law 330 = .ok (.aload_n 0, 1) := by decide +kernel
theorem d_LW_law_331 : decode b_LW_law 331 = .ok (.iload_n 3, 1) := by decide +kernel
theorem d_LW_law_332 : decode b_LW_law 332 = .ok (.iconst 4, 1) := by decide +kernel
theorem d_LW_law_333 : decode b_LW_law 333 = .ok (.iadd, 1) := by decide +kernel
theorem d_LW_law_334 : decode b_LW_law 334 = .ok (.iaload, 1) := by decide +kernel
theorem d_LW_law_335 : decode b_LW_law 335 = .ok (.invokevirtual 36, 3) := by decide +kernel
theorem d_LW_law_338 : decode b_LW_law 338 = .ok (.if_icmp .eq 310, 3) := by decide +kernel
theorem d_LW_law_341 : decode b_LW_law 341 = .ok (.iconst 0, 1) := by decide +kernel
theorem d_LW_law_342 : decode b_LW_law 342 = .ok (.ireturn, 1) := by decide +kernel
theorem d_LW_law_343 : decode b_LW_law 343 = .ok (.aload_n 1, 1) := by decide +kernel
theorem d_LW_law_344 : decode b_LW_law 344 = .ok (.aload_n 0, 1) := by decide +kernel
theorem d_LW_law_345 : decode b_LW_law 345 = .ok (.iload_n 3, 1) := by decide +kernel
theorem d_LW_law_346 : decode b_LW_law 346 = .ok (.iconst 1, 1) := by decide +kernel
theorem d_LW_law_347 : decode b_LW_law 347 = .ok (.iadd, 1) := by decide +kernel
theorem d_LW_law_348 : decode b_LW_law 348 = .ok (.iaload, 1) := by decide +kernel
theorem d_LW_law_349 : decode b_LW_law 349 = .ok (.aload_n 0, 1) := by decide +kernel
theorem d_LW_law_350 : decode b_LW_law 350 = .ok (.iload_n 3, 1) := by decide +kernel
