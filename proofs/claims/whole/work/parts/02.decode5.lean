theorem drf_Md_init_121 : decode rfb_Md_init 121 = .ok (.putfield 52, 3) := by decide +kernel
theorem drf_Md_init_124 : decode rfb_Md_init 124 = .ok (.aload_n 0, 1) := by decide +kernel
theorem drf_Md_init_125 : decode rfb_Md_init 125 = .ok (.bipush 60, 2) := by decide +kernel
theorem drf_Md_init_127 : decode rfb_Md_init 127 = .ok (.newarray .int, 2) := by decide +kernel
theorem drf_Md_init_129 : decode rfb_Md_init 129 = .ok (.putfield 55, 3) := by decide +kernel
theorem drf_Md_init_132 : decode rfb_Md_init 132 = .ok (.aload_n 0, 1) := by decide +kernel
theorem drf_Md_init_133 : decode rfb_Md_init 133 = .ok (.bipush 60, 2) := by decide +kernel
theorem drf_Md_init_135 : decode rfb_Md_init 135 = .ok (.newarray .int, 2) := by decide +kernel
theorem drf_Md_init_137 : decode rfb_Md_init 137 = .ok (.putfield 58, 3) := by decide +kernel
theorem drf_Md_init_140 : decode rfb_Md_init 140 = .ok (.aload_n 0, 1) := by decide +kernel
theorem drf_Md_init_141 : decode rfb_Md_init 141 = .ok (.sipush 720, 3) := by decide +kernel
theorem drf_Md_init_144 : decode rfb_Md_init 144 = .ok (.newarray .int, 2) := by decide +kernel
theorem drf_Md_init_146 : decode rfb_Md_init 146 = .ok (.putfield 61, 3) := by decide +kernel
theorem drf_Md_init_149 : decode rfb_Md_init 149 = .ok (.aload_n 0, 1) := by decide +kernel
theorem drf_Md_init_150 : decode rfb_Md_init 150 = .ok (.iload_n 1, 1) := by decide +kernel
theorem drf_Md_init_151 : decode rfb_Md_init 151 = .ok (.ifCond .ge 7, 3) := by decide +kernel
theorem drf_Md_init_154 : decode rfb_Md_init 154 = .ok (.iconst 0, 1) := by decide +kernel
theorem drf_Md_init_155 : decode rfb_Md_init 155 = .ok (.goto 15, 3) := by decide +kernel
theorem drf_Md_init_158 : decode rfb_Md_init 158 = .ok (.iload_n 1, 1) := by decide +kernel
theorem drf_Md_init_159 : decode rfb_Md_init 159 = .ok (.bipush 20, 2) := by decide +kernel
theorem drf_Md_init_161 : decode rfb_Md_init 161 = .ok (.if_icmp .le 8, 3) := by decide +kernel
theorem drf_Md_init_164 : decode rfb_Md_init 164 = .ok (.bipush 20, 2) := by decide +kernel
theorem drf_Md_init_166 : decode rfb_Md_init 166 = .ok (.goto 4, 3) := by decide +kernel
theorem drf_Md_init_169 : decode rfb_Md_init 169 = .ok (.iload_n 1, 1) := by decide +kernel
theorem drf_Md_init_170 : decode rfb_Md_init 170 = .ok (.putfield 64, 3) := by decide +kernel
theorem drf_Md_init_173 : decode rfb_Md_init 173 = .ok (.return_, 1) := by decide +kernel
theorem dlw_0 : decode code 0 = .ok (.new 7, 3) := by decide +kernel
theorem dlw_3 : decode code 3 = .ok (.dup, 1) := by decide +kernel
theorem dlw_4 : decode code 4 = .ok (.aload_n 0, 1) := by decide +kernel
theorem dlw_5 : decode code 5 = .ok (.iconst 0, 1) := by decide +kernel
theorem dlw_6 : decode code 6 = .ok (.invokestatic 9, 3) := by decide +kernel
theorem dlw_9 : decode code 9 = .ok (.invokespecial 15, 3) := by decide +kernel
theorem dlw_12 : decode code 12 = .ok (.astore_n 1, 1) := by decide +kernel
theorem dlw_13 : decode code 13 = .ok (.new 18, 3) := by decide +kernel
theorem dlw_16 : decode code 16 = .ok (.dup, 1) := by decide +kernel
theorem dlw_17 : decode code 17 = .ok (.aload_n 0, 1) := by decide +kernel
theorem dlw_18 : decode code 18 = .ok (.iconst 0, 1) := by decide +kernel
theorem dlw_19 : decode code 19 = .ok (.invokestatic 9, 3) := by decide +kernel
theorem dlw_22 : decode code 22 = .ok (.invokespecial 20, 3) := by decide +kernel
theorem dlw_25 : decode code 25 = .ok (.astore_n 2, 1) := by decide +kernel
theorem dlw_26 : decode code 26 = .ok (.iconst 1, 1) := by decide +kernel
theorem dlw_27 : decode code 27 = .ok (.istore_n 3, 1) := by decide +kernel
theorem dlw_28 : decode code 28 = .ok (.iload_n 3, 1) := by decide +kernel
theorem dlw_29 : decode code 29 = .ok (.aload_n 0, 1) := by decide +kernel
theorem dlw_30 : decode code 30 = .ok (.arraylength, 1) := by decide +kernel
theorem dlw_31 : decode code 31 = .ok (.iconst 5, 1) := by decide +kernel
theorem dlw_32 : decode code 32 = .ok (.isub, 1) := by decide +kernel
theorem dlw_33 : decode code 33 = .ok (.if_icmp .gt 567, 3) := by decide +kernel
theorem dlw_36 : decode code 36 = .ok (.aload_n 0, 1) := by decide +kernel
theorem dlw_37 : decode code 37 = .ok (.iload_n 3, 1) := by decide +kernel
theorem dlw_38 : decode code 38 = .ok (.iaload, 1) := by decide +kernel
theorem dlw_39 : decode code 39 = .ok (.bipush 15, 2) := by decide +kernel
theorem dlw_41 : decode code 41 = .ok (.iand, 1) := by decide +kernel
theorem dlw_42 : decode code 42 = .ok (.tableswitch 552 0 15 #[78, 101, 134, 187, 240, 273, 296, 319, 342, 365, 388, 401, 414, 447, 480, 529], 78) := by decide +kernel
theorem dlw_120 : decode code 120 = .ok (.aload_n 1, 1) := by decide +kernel
theorem dlw_121 : decode code 121 = .ok (.aload_n 0, 1) := by decide +kernel
theorem dlw_122 : decode code 122 = .ok (.iload_n 3, 1) := by decide +kernel
theorem dlw_123 : decode code 123 = .ok (.iconst 1, 1) := by decide +kernel
theorem dlw_124 : decode code 124 = .ok (.iadd, 1) := by decide +kernel
theorem dlw_125 : decode code 125 = .ok (.iaload, 1) := by decide +kernel
theorem dlw_126 : decode code 126 = .ok (.invokevirtual 21, 3) := by decide +kernel
theorem dlw_129 : decode code 129 = .ok (.aload_n 2, 1) := by decide +kernel
theorem dlw_130 : decode code 130 = .ok (.aload_n 0, 1) := by decide +kernel
theorem dlw_131 : decode code 131 = .ok (.iload_n 3, 1) := by decide +kernel
theorem dlw_132 : decode code 132 = .ok (.iconst 1, 1) := by decide +kernel
theorem dlw_133 : decode code 133 = .ok (.iadd, 1) := by decide +kernel
theorem dlw_134 : decode code 134 = .ok (.iaload, 1) := by decide +kernel
theorem dlw_135 : decode code 135 = .ok (.invokevirtual 25, 3) := by decide +kernel
theorem dlw_138 : decode code 138 = .ok (.if_icmp .eq 456, 3) := by decide +kernel
theorem dlw_141 : decode code 141 = .ok (.iconst 0, 1) := by decide +kernel
theorem dlw_142 : decode code 142 = .ok (.ireturn, 1) := by decide +kernel
theorem dlw_143 : decode code 143 = .ok (.aload_n 1, 1) := by decide +kernel
theorem dlw_144 : decode code 144 = .ok (.aload_n 0, 1) := by decide +kernel
theorem dlw_145 : decode code 145 = .ok (.iload_n 3, 1) := by decide +kernel
theorem dlw_146 : decode code 146 = .ok (.iconst 1, 1) := by decide +kernel
theorem dlw_147 : decode code 147 = .ok (.iadd, 1) := by decide +kernel
theorem dlw_148 : decode code 148 = .ok (.iaload, 1) := by decide +kernel
theorem dlw_149 : decode code 149 = .ok (.aload_n 0, 1) := by decide +kernel
theorem dlw_150 : decode code 150 = .ok (.iload_n 3, 1) := by decide +kernel
theorem dlw_151 : decode code 151 = .ok (.iconst 2, 1) := by decide +kernel
theorem dlw_152 : decode code 152 = .ok (.iadd, 1) := by decide +kernel
theorem dlw_153 : decode code 153 = .ok (.iaload, 1) := by decide +kernel
theorem dlw_154 : decode code 154 = .ok (.invokevirtual 26, 3) := by decide +kernel
theorem dlw_157 : decode code 157 = .ok (.aload_n 2, 1) := by decide +kernel
theorem dlw_158 : decode code 158 = .ok (.aload_n 0, 1) := by decide +kernel
theorem dlw_159 : decode code 159 = .ok (.iload_n 3, 1) := by decide +kernel
theorem dlw_160 : decode code 160 = .ok (.iconst 1, 1) := by decide +kernel
theorem dlw_161 : decode code 161 = .ok (.iadd, 1) := by decide +kernel
theorem dlw_162 : decode code 162 = .ok (.iaload, 1) := by decide +kernel
theorem dlw_163 : decode code 163 = .ok (.aload_n 0, 1) := by decide +kernel
theorem dlw_164 : decode code 164 = .ok (.iload_n 3, 1) := by decide +kernel
theorem dlw_165 : decode code 165 = .ok (.iconst 2, 1) := by decide +kernel
theorem dlw_166 : decode code 166 = .ok (.iadd, 1) := by decide +kernel
theorem dlw_167 : decode code 167 = .ok (.iaload, 1) := by decide +kernel
theorem dlw_168 : decode code 168 = .ok (.invokevirtual 30, 3) := by decide +kernel
theorem dlw_171 : decode code 171 = .ok (.if_icmp .eq 423, 3) := by decide +kernel
theorem dlw_174 : decode code 174 = .ok (.iconst 0, 1) := by decide +kernel
theorem dlw_175 : decode code 175 = .ok (.ireturn, 1) := by decide +kernel
theorem dlw_176 : decode code 176 = .ok (.aload_n 1, 1) := by decide +kernel
theorem dlw_177 : decode code 177 = .ok (.aload_n 0, 1) := by decide +kernel
theorem dlw_178 : decode code 178 = .ok (.iload_n 3, 1) := by decide +kernel
theorem dlw_179 : decode code 179 = .ok (.iconst 1, 1) := by decide +kernel
theorem dlw_180 : decode code 180 = .ok (.iadd, 1) := by decide +kernel
theorem dlw_181 : decode code 181 = .ok (.iaload, 1) := by decide +kernel
theorem dlw_182 : decode code 182 = .ok (.aload_n 0, 1) := by decide +kernel
theorem dlw_183 : decode code 183 = .ok (.iload_n 3, 1) := by decide +kernel
theorem dlw_184 : decode code 184 = .ok (.iconst 2, 1) := by decide +kernel
theorem dlw_185 : decode code 185 = .ok (.iadd, 1) := by decide +kernel
theorem dlw_186 : decode code 186 = .ok (.iaload, 1) := by decide +kernel
theorem dlw_187 : decode code 187 = .ok (.aload_n 0, 1) := by decide +kernel
theorem dlw_188 : decode code 188 = .ok (.iload_n 3, 1) := by decide +kernel
theorem dlw_189 : decode code 189 = .ok (.iconst 3, 1) := by decide +kernel
theorem dlw_190 : decode code 190 = .ok (.iadd, 1) := by decide +kernel
theorem dlw_191 : decode code 191 = .ok (.iaload, 1) := by decide +kernel
theorem dlw_192 : decode code 192 = .ok (.aload_n 0, 1) := by decide +kernel
theorem dlw_193 : decode code 193 = .ok (.iload_n 3, 1) := by decide +kernel
theorem dlw_194 : decode code 194 = .ok (.iconst 4, 1) := by decide +kernel
theorem dlw_195 : decode code 195 = .ok (.iadd, 1) := by decide +kernel
theorem dlw_196 : decode code 196 = .ok (.iaload, 1) := by decide +kernel
theorem dlw_197 : decode code 197 = .ok (.invokevirtual 31, 3) := by decide +kernel
theorem dlw_200 : decode code 200 = .ok (.aload_n 2, 1) := by decide +kernel
theorem dlw_201 : decode code 201 = .ok (.aload_n 0, 1) := by decide +kernel
theorem dlw_202 : decode code 202 = .ok (.iload_n 3, 1) := by decide +kernel
theorem dlw_203 : decode code 203 = .ok (.iconst 1, 1) := by decide +kernel
theorem dlw_204 : decode code 204 = .ok (.iadd, 1) := by decide +kernel
theorem dlw_205 : decode code 205 = .ok (.iaload, 1) := by decide +kernel
theorem dlw_206 : decode code 206 = .ok (.aload_n 0, 1) := by decide +kernel
theorem dlw_207 : decode code 207 = .ok (.iload_n 3, 1) := by decide +kernel
theorem dlw_208 : decode code 208 = .ok (.iconst 2, 1) := by decide +kernel
theorem dlw_209 : decode code 209 = .ok (.iadd, 1) := by decide +kernel
theorem dlw_210 : decode code 210 = .ok (.iaload, 1) := by decide +kernel
theorem dlw_211 : decode code 211 = .ok (.aload_n 0, 1) := by decide +kernel
theorem dlw_212 : decode code 212 = .ok (.iload_n 3, 1) := by decide +kernel
theorem dlw_213 : decode code 213 = .ok (.iconst 3, 1) := by decide +kernel
theorem dlw_214 : decode code 214 = .ok (.iadd, 1) := by decide +kernel
theorem dlw_215 : decode code 215 = .ok (.iaload, 1) := by decide +kernel
theorem dlw_216 : decode code 216 = .ok (.aload_n 0, 1) := by decide +kernel
theorem dlw_217 : decode code 217 = .ok (.iload_n 3, 1) := by decide +kernel
theorem dlw_218 : decode code 218 = .ok (.iconst 4, 1) := by decide +kernel
theorem dlw_219 : decode code 219 = .ok (.iadd, 1) := by decide +kernel
theorem dlw_220 : decode code 220 = .ok (.iaload, 1) := by decide +kernel
theorem dlw_221 : decode code 221 = .ok (.invokevirtual 35, 3) := by decide +kernel
theorem dlw_224 : decode code 224 = .ok (.if_icmp .eq 370, 3) := by decide +kernel
theorem dlw_227 : decode code 227 = .ok (.iconst 0, 1) := by decide +kernel
theorem dlw_228 : decode code 228 = .ok (.ireturn, 1) := by decide +kernel
theorem dlw_229 : decode code 229 = .ok (.aload_n 1, 1) := by decide +kernel
theorem dlw_230 : decode code 230 = .ok (.aload_n 0, 1) := by decide +kernel
theorem dlw_231 : decode code 231 = .ok (.iload_n 3, 1) := by decide +kernel
theorem dlw_232 : decode code 232 = .ok (.iconst 1, 1) := by decide +kernel
theorem dlw_233 : decode code 233 = .ok (.iadd, 1) := by decide +kernel
theorem dlw_234 : decode code 234 = .ok (.iaload, 1) := by decide +kernel
theorem dlw_235 : decode code 235 = .ok (.aload_n 0, 1) := by decide +kernel
theorem dlw_236 : decode code 236 = .ok (.iload_n 3, 1) := by decide +kernel
theorem dlw_237 : decode code 237 = .ok (.iconst 2, 1) := by decide +kernel
theorem dlw_238 : decode code 238 = .ok (.iadd, 1) := by decide +kernel
theorem dlw_239 : decode code 239 = .ok (.iaload, 1) := by decide +kernel
theorem dlw_240 : decode code 240 = .ok (.aload_n 0, 1) := by decide +kernel
theorem dlw_241 : decode code 241 = .ok (.iload_n 3, 1) := by decide +kernel
theorem dlw_242 : decode code 242 = .ok (.iconst 3, 1) := by decide +kernel
theorem dlw_243 : decode code 243 = .ok (.iadd, 1) := by decide +kernel
theorem dlw_244 : decode code 244 = .ok (.iaload, 1) := by decide +kernel
theorem dlw_245 : decode code 245 = .ok (.aload_n 0, 1) := by decide +kernel
theorem dlw_246 : decode code 246 = .ok (.iload_n 3, 1) := by decide +kernel
theorem dlw_247 : decode code 247 = .ok (.iconst 4, 1) := by decide +kernel
theorem dlw_248 : decode code 248 = .ok (.iadd, 1) := by decide +kernel
theorem dlw_249 : decode code 249 = .ok (.iaload, 1) := by decide +kernel
theorem dlw_250 : decode code 250 = .ok (.invokevirtual 36, 3) := by decide +kernel
theorem dlw_253 : decode code 253 = .ok (.aload_n 2, 1) := by decide +kernel
theorem dlw_254 : decode code 254 = .ok (.aload_n 0, 1) := by decide +kernel
theorem dlw_255 : decode code 255 = .ok (.iload_n 3, 1) := by decide +kernel
theorem dlw_256 : decode code 256 = .ok (.iconst 1, 1) := by decide +kernel
theorem dlw_257 : decode code 257 = .ok (.iadd, 1) := by decide +kernel
theorem dlw_258 : decode code 258 = .ok (.iaload, 1) := by decide +kernel
theorem dlw_259 : decode code 259 = .ok (.aload_n 0, 1) := by decide +kernel
theorem dlw_260 : decode code 260 = .ok (.iload_n 3, 1) := by decide +kernel
theorem dlw_261 : decode code 261 = .ok (.iconst 2, 1) := by decide +kernel
theorem dlw_262 : decode code 262 = .ok (.iadd, 1) := by decide +kernel
theorem dlw_263 : decode code 263 = .ok (.iaload, 1) := by decide +kernel
theorem dlw_264 : decode code 264 = .ok (.aload_n 0, 1) := by decide +kernel
theorem dlw_265 : decode code 265 = .ok (.iload_n 3, 1) := by decide +kernel
theorem dlw_266 : decode code 266 = .ok (.iconst 3, 1) := by decide +kernel
theorem dlw_267 : decode code 267 = .ok (.iadd, 1) := by decide +kernel
theorem dlw_268 : decode code 268 = .ok (.iaload, 1) := by decide +kernel
theorem dlw_269 : decode code 269 = .ok (.aload_n 0, 1) := by decide +kernel
theorem dlw_270 : decode code 270 = .ok (.iload_n 3, 1) := by decide +kernel
theorem dlw_271 : decode code 271 = .ok (.iconst 4, 1) := by decide +kernel
theorem dlw_272 : decode code 272 = .ok (.iadd, 1) := by decide +kernel
theorem dlw_273 : decode code 273 = .ok (.iaload, 1) := by decide +kernel
theorem dlw_274 : decode code 274 = .ok (.invokevirtual 39, 3) := by decide +kernel
theorem dlw_277 : decode code 277 = .ok (.if_icmp .eq 317, 3) := by decide +kernel
theorem dlw_280 : decode code 280 = .ok (.iconst 0, 1) := by decide +kernel
theorem dlw_281 : decode code 281 = .ok (.ireturn, 1) := by decide +kernel
theorem dlw_282 : decode code 282 = .ok (.aload_n 1, 1) := by decide +kernel
theorem dlw_283 : decode code 283 = .ok (.aload_n 0, 1) := by decide +kernel
theorem dlw_284 : decode code 284 = .ok (.iload_n 3, 1) := by decide +kernel
theorem dlw_285 : decode code 285 = .ok (.iconst 1, 1) := by decide +kernel
theorem dlw_286 : decode code 286 = .ok (.iadd, 1) := by decide +kernel
theorem dlw_287 : decode code 287 = .ok (.iaload, 1) := by decide +kernel
theorem dlw_288 : decode code 288 = .ok (.aload_n 0, 1) := by decide +kernel
theorem dlw_289 : decode code 289 = .ok (.iload_n 3, 1) := by decide +kernel
theorem dlw_290 : decode code 290 = .ok (.iconst 2, 1) := by decide +kernel
theorem dlw_291 : decode code 291 = .ok (.iadd, 1) := by decide +kernel
theorem dlw_292 : decode code 292 = .ok (.iaload, 1) := by decide +kernel
theorem dlw_293 : decode code 293 = .ok (.invokevirtual 40, 3) := by decide +kernel
theorem dlw_296 : decode code 296 = .ok (.aload_n 2, 1) := by decide +kernel
theorem dlw_297 : decode code 297 = .ok (.aload_n 0, 1) := by decide +kernel
theorem dlw_298 : decode code 298 = .ok (.iload_n 3, 1) := by decide +kernel
theorem dlw_299 : decode code 299 = .ok (.iconst 1, 1) := by decide +kernel
theorem dlw_300 : decode code 300 = .ok (.iadd, 1) := by decide +kernel
theorem dlw_301 : decode code 301 = .ok (.iaload, 1) := by decide +kernel
theorem dlw_302 : decode code 302 = .ok (.aload_n 0, 1) := by decide +kernel
theorem dlw_303 : decode code 303 = .ok (.iload_n 3, 1) := by decide +kernel
theorem dlw_304 : decode code 304 = .ok (.iconst 2, 1) := by decide +kernel
theorem dlw_305 : decode code 305 = .ok (.iadd, 1) := by decide +kernel
theorem dlw_306 : decode code 306 = .ok (.iaload, 1) := by decide +kernel
theorem dlw_307 : decode code 307 = .ok (.invokevirtual 44, 3) := by decide +kernel
theorem dlw_310 : decode code 310 = .ok (.if_icmp .eq 284, 3) := by decide +kernel
theorem dlw_313 : decode code 313 = .ok (.iconst 0, 1) := by decide +kernel
theorem dlw_314 : decode code 314 = .ok (.ireturn, 1) := by decide +kernel
theorem dlw_315 : decode code 315 = .ok (.aload_n 1, 1) := by decide +kernel
theorem dlw_316 : decode code 316 = .ok (.aload_n 0, 1) := by decide +kernel
theorem dlw_317 : decode code 317 = .ok (.iload_n 3, 1) := by decide +kernel
theorem dlw_318 : decode code 318 = .ok (.iconst 1, 1) := by decide +kernel
theorem dlw_319 : decode code 319 = .ok (.iadd, 1) := by decide +kernel
theorem dlw_320 : decode code 320 = .ok (.iaload, 1) := by decide +kernel
theorem dlw_321 : decode code 321 = .ok (.invokevirtual 45, 3) := by decide +kernel
theorem dlw_324 : decode code 324 = .ok (.aload_n 2, 1) := by decide +kernel
theorem dlw_325 : decode code 325 = .ok (.aload_n 0, 1) := by decide +kernel
theorem dlw_326 : decode code 326 = .ok (.iload_n 3, 1) := by decide +kernel
theorem dlw_327 : decode code 327 = .ok (.iconst 1, 1) := by decide +kernel
theorem dlw_328 : decode code 328 = .ok (.iadd, 1) := by decide +kernel
theorem dlw_329 : decode code 329 = .ok (.iaload, 1) := by decide +kernel
theorem dlw_330 : decode code 330 = .ok (.invokevirtual 48, 3) := by decide +kernel
theorem dlw_333 : decode code 333 = .ok (.if_icmp .eq 261, 3) := by decide +kernel
theorem dlw_336 : decode code 336 = .ok (.iconst 0, 1) := by decide +kernel
theorem dlw_337 : decode code 337 = .ok (.ireturn, 1) := by decide +kernel
theorem dlw_338 : decode code 338 = .ok (.aload_n 1, 1) := by decide +kernel
theorem dlw_339 : decode code 339 = .ok (.aload_n 0, 1) := by decide +kernel
theorem dlw_340 : decode code 340 = .ok (.iload_n 3, 1) := by decide +kernel
theorem dlw_341 : decode code 341 = .ok (.iconst 1, 1) := by decide +kernel
theorem dlw_342 : decode code 342 = .ok (.iadd, 1) := by decide +kernel
theorem dlw_343 : decode code 343 = .ok (.iaload, 1) := by decide +kernel
theorem dlw_344 : decode code 344 = .ok (.invokevirtual 49, 3) := by decide +kernel
theorem dlw_347 : decode code 347 = .ok (.aload_n 2, 1) := by decide +kernel
theorem dlw_348 : decode code 348 = .ok (.aload_n 0, 1) := by decide +kernel
theorem dlw_349 : decode code 349 = .ok (.iload_n 3, 1) := by decide +kernel
theorem dlw_350 : decode code 350 = .ok (.iconst 1, 1) := by decide +kernel
theorem dlw_351 : decode code 351 = .ok (.iadd, 1) := by decide +kernel
theorem dlw_352 : decode code 352 = .ok (.iaload, 1) := by decide +kernel
theorem dlw_353 : decode code 353 = .ok (.invokevirtual 52, 3) := by decide +kernel
theorem dlw_356 : decode code 356 = .ok (.if_icmp .eq 238, 3) := by decide +kernel
theorem dlw_359 : decode code 359 = .ok (.iconst 0, 1) := by decide +kernel
theorem dlw_360 : decode code 360 = .ok (.ireturn, 1) := by decide +kernel
theorem dlw_361 : decode code 361 = .ok (.aload_n 1, 1) := by decide +kernel
theorem dlw_362 : decode code 362 = .ok (.aload_n 0, 1) := by decide +kernel
theorem dlw_363 : decode code 363 = .ok (.iload_n 3, 1) := by decide +kernel
theorem dlw_364 : decode code 364 = .ok (.iconst 1, 1) := by decide +kernel
theorem dlw_365 : decode code 365 = .ok (.iadd, 1) := by decide +kernel
theorem dlw_366 : decode code 366 = .ok (.iaload, 1) := by decide +kernel
theorem dlw_367 : decode code 367 = .ok (.invokevirtual 53, 3) := by decide +kernel
theorem dlw_370 : decode code 370 = .ok (.aload_n 2, 1) := by decide +kernel
theorem dlw_371 : decode code 371 = .ok (.aload_n 0, 1) := by decide +kernel
theorem dlw_372 : decode code 372 = .ok (.iload_n 3, 1) := by decide +kernel
theorem dlw_373 : decode code 373 = .ok (.iconst 1, 1) := by decide +kernel
theorem dlw_374 : decode code 374 = .ok (.iadd, 1) := by decide +kernel
theorem dlw_375 : decode code 375 = .ok (.iaload, 1) := by decide +kernel
theorem dlw_376 : decode code 376 = .ok (.invokevirtual 56, 3) := by decide +kernel
theorem dlw_379 : decode code 379 = .ok (.if_icmp .eq 215, 3) := by decide +kernel
theorem dlw_382 : decode code 382 = .ok (.iconst 0, 1) := by decide +kernel
theorem dlw_383 : decode code 383 = .ok (.ireturn, 1) := by decide +kernel
theorem dlw_384 : decode code 384 = .ok (.aload_n 1, 1) := by decide +kernel
theorem dlw_385 : decode code 385 = .ok (.aload_n 0, 1) := by decide +kernel
theorem dlw_386 : decode code 386 = .ok (.iload_n 3, 1) := by decide +kernel
theorem dlw_387 : decode code 387 = .ok (.iconst 1, 1) := by decide +kernel
theorem dlw_388 : decode code 388 = .ok (.iadd, 1) := by decide +kernel
theorem dlw_389 : decode code 389 = .ok (.iaload, 1) := by decide +kernel
theorem dlw_390 : decode code 390 = .ok (.invokevirtual 57, 3) := by decide +kernel
theorem dlw_393 : decode code 393 = .ok (.aload_n 2, 1) := by decide +kernel
theorem dlw_394 : decode code 394 = .ok (.aload_n 0, 1) := by decide +kernel
theorem dlw_395 : decode code 395 = .ok (.iload_n 3, 1) := by decide +kernel
theorem dlw_396 : decode code 396 = .ok (.iconst 1, 1) := by decide +kernel
theorem dlw_397 : decode code 397 = .ok (.iadd, 1) := by decide +kernel
theorem dlw_398 : decode code 398 = .ok (.iaload, 1) := by decide +kernel
theorem dlw_399 : decode code 399 = .ok (.invokevirtual 60, 3) := by decide +kernel
theorem dlw_402 : decode code 402 = .ok (.if_icmp .eq 192, 3) := by decide +kernel
theorem dlw_405 : decode code 405 = .ok (.iconst 0, 1) := by decide +kernel
theorem dlw_406 : decode code 406 = .ok (.ireturn, 1) := by decide +kernel
theorem dlw_407 : decode code 407 = .ok (.aload_n 1, 1) := by decide +kernel
theorem dlw_408 : decode code 408 = .ok (.aload_n 0, 1) := by decide +kernel
theorem dlw_409 : decode code 409 = .ok (.iload_n 3, 1) := by decide +kernel
theorem dlw_410 : decode code 410 = .ok (.iconst 1, 1) := by decide +kernel
theorem dlw_411 : decode code 411 = .ok (.iadd, 1) := by decide +kernel
theorem dlw_412 : decode code 412 = .ok (.iaload, 1) := by decide +kernel
theorem dlw_413 : decode code 413 = .ok (.invokevirtual 61, 3) := by decide +kernel
theorem dlw_416 : decode code 416 = .ok (.aload_n 2, 1) := by decide +kernel
theorem dlw_417 : decode code 417 = .ok (.aload_n 0, 1) := by decide +kernel
theorem dlw_418 : decode code 418 = .ok (.iload_n 3, 1) := by decide +kernel
theorem dlw_419 : decode code 419 = .ok (.iconst 1, 1) := by decide +kernel
theorem dlw_420 : decode code 420 = .ok (.iadd, 1) := by decide +kernel
theorem dlw_421 : decode code 421 = .ok (.iaload, 1) := by decide +kernel
theorem dlw_422 : decode code 422 = .ok (.invokevirtual 64, 3) := by decide +kernel
theorem dlw_425 : decode code 425 = .ok (.if_icmp .eq 169, 3) := by decide +kernel
theorem dlw_428 : decode code 428 = .ok (.iconst 0, 1) := by decide +kernel
theorem dlw_429 : decode code 429 = .ok (.ireturn, 1) := by decide +kernel
theorem dlw_430 : decode code 430 = .ok (.aload_n 1, 1) := by decide +kernel
theorem dlw_431 : decode code 431 = .ok (.invokevirtual 65, 3) := by decide +kernel
theorem dlw_434 : decode code 434 = .ok (.aload_n 2, 1) := by decide +kernel
theorem dlw_435 : decode code 435 = .ok (.invokevirtual 69, 3) := by decide +kernel
theorem dlw_438 : decode code 438 = .ok (.if_icmp .eq 156, 3) := by decide +kernel
theorem dlw_441 : decode code 441 = .ok (.iconst 0, 1) := by decide +kernel
theorem dlw_442 : decode code 442 = .ok (.ireturn, 1) := by decide +kernel
theorem dlw_443 : decode code 443 = .ok (.aload_n 1, 1) := by decide +kernel
theorem dlw_444 : decode code 444 = .ok (.invokevirtual 70, 3) := by decide +kernel
theorem dlw_447 : decode code 447 = .ok (.aload_n 2, 1) := by decide +kernel
theorem dlw_448 : decode code 448 = .ok (.invokevirtual 73, 3) := by decide +kernel
theorem dlw_451 : decode code 451 = .ok (.if_icmp .eq 143, 3) := by decide +kernel
theorem dlw_454 : decode code 454 = .ok (.iconst 0, 1) := by decide +kernel
theorem dlw_455 : decode code 455 = .ok (.ireturn, 1) := by decide +kernel
theorem dlw_456 : decode code 456 = .ok (.aload_n 1, 1) := by decide +kernel
theorem dlw_457 : decode code 457 = .ok (.aload_n 0, 1) := by decide +kernel
theorem dlw_458 : decode code 458 = .ok (.iload_n 3, 1) := by decide +kernel
theorem dlw_459 : decode code 459 = .ok (.iconst 1, 1) := by decide +kernel
theorem dlw_460 : decode code 460 = .ok (.iadd, 1) := by decide +kernel
theorem dlw_461 : decode code 461 = .ok (.iaload, 1) := by decide +kernel
theorem dlw_462 : decode code 462 = .ok (.aload_n 0, 1) := by decide +kernel
theorem dlw_463 : decode code 463 = .ok (.iload_n 3, 1) := by decide +kernel
theorem dlw_464 : decode code 464 = .ok (.iconst 2, 1) := by decide +kernel
theorem dlw_465 : decode code 465 = .ok (.iadd, 1) := by decide +kernel
theorem dlw_466 : decode code 466 = .ok (.iaload, 1) := by decide +kernel
theorem dlw_467 : decode code 467 = .ok (.invokevirtual 74, 3) := by decide +kernel
theorem dlw_470 : decode code 470 = .ok (.aload_n 2, 1) := by decide +kernel
theorem dlw_471 : decode code 471 = .ok (.aload_n 0, 1) := by decide +kernel
theorem dlw_472 : decode code 472 = .ok (.iload_n 3, 1) := by decide +kernel
theorem dlw_473 : decode code 473 = .ok (.iconst 1, 1) := by decide +kernel
theorem dlw_474 : decode code 474 = .ok (.iadd, 1) := by decide +kernel
theorem dlw_475 : decode code 475 = .ok (.iaload, 1) := by decide +kernel
theorem dlw_476 : decode code 476 = .ok (.aload_n 0, 1) := by decide +kernel
theorem dlw_477 : decode code 477 = .ok (.iload_n 3, 1) := by decide +kernel
theorem dlw_478 : decode code 478 = .ok (.iconst 2, 1) := by decide +kernel
theorem dlw_479 : decode code 479 = .ok (.iadd, 1) := by decide +kernel
theorem dlw_480 : decode code 480 = .ok (.iaload, 1) := by decide +kernel
theorem dlw_481 : decode code 481 = .ok (.invokevirtual 77, 3) := by decide +kernel
theorem dlw_484 : decode code 484 = .ok (.if_icmp .eq 110, 3) := by decide +kernel
theorem dlw_487 : decode code 487 = .ok (.iconst 0, 1) := by decide +kernel
theorem dlw_488 : decode code 488 = .ok (.ireturn, 1) := by decide +kernel
theorem dlw_489 : decode code 489 = .ok (.aload_n 1, 1) := by decide +kernel
theorem dlw_490 : decode code 490 = .ok (.aload_n 0, 1) := by decide +kernel
theorem dlw_491 : decode code 491 = .ok (.iload_n 3, 1) := by decide +kernel
theorem dlw_492 : decode code 492 = .ok (.iconst 1, 1) := by decide +kernel
theorem dlw_493 : decode code 493 = .ok (.iadd, 1) := by decide +kernel
theorem dlw_494 : decode code 494 = .ok (.iaload, 1) := by decide +kernel
theorem dlw_495 : decode code 495 = .ok (.aload_n 0, 1) := by decide +kernel
theorem dlw_496 : decode code 496 = .ok (.iload_n 3, 1) := by decide +kernel
theorem dlw_497 : decode code 497 = .ok (.iconst 2, 1) := by decide +kernel
theorem dlw_498 : decode code 498 = .ok (.iadd, 1) := by decide +kernel
theorem dlw_499 : decode code 499 = .ok (.iaload, 1) := by decide +kernel
theorem dlw_500 : decode code 500 = .ok (.invokevirtual 78, 3) := by decide +kernel
theorem dlw_503 : decode code 503 = .ok (.aload_n 2, 1) := by decide +kernel
theorem dlw_504 : decode code 504 = .ok (.aload_n 0, 1) := by decide +kernel
theorem dlw_505 : decode code 505 = .ok (.iload_n 3, 1) := by decide +kernel
theorem dlw_506 : decode code 506 = .ok (.iconst 1, 1) := by decide +kernel
theorem dlw_507 : decode code 507 = .ok (.iadd, 1) := by decide +kernel
theorem dlw_508 : decode code 508 = .ok (.iaload, 1) := by decide +kernel
theorem dlw_509 : decode code 509 = .ok (.aload_n 0, 1) := by decide +kernel
theorem dlw_510 : decode code 510 = .ok (.iload_n 3, 1) := by decide +kernel
theorem dlw_511 : decode code 511 = .ok (.iconst 2, 1) := by decide +kernel
theorem dlw_512 : decode code 512 = .ok (.iadd, 1) := by decide +kernel
theorem dlw_513 : decode code 513 = .ok (.iaload, 1) := by decide +kernel
theorem dlw_514 : decode code 514 = .ok (.invokevirtual 81, 3) := by decide +kernel
theorem dlw_517 : decode code 517 = .ok (.if_icmp .eq 77, 3) := by decide +kernel
theorem dlw_520 : decode code 520 = .ok (.iconst 0, 1) := by decide +kernel
theorem dlw_521 : decode code 521 = .ok (.ireturn, 1) := by decide +kernel
theorem dlw_522 : decode code 522 = .ok (.aload_n 1, 1) := by decide +kernel
theorem dlw_523 : decode code 523 = .ok (.aload_n 0, 1) := by decide +kernel
theorem dlw_524 : decode code 524 = .ok (.iload_n 3, 1) := by decide +kernel
theorem dlw_525 : decode code 525 = .ok (.iconst 1, 1) := by decide +kernel
theorem dlw_526 : decode code 526 = .ok (.iadd, 1) := by decide +kernel
theorem dlw_527 : decode code 527 = .ok (.iaload, 1) := by decide +kernel
theorem dlw_528 : decode code 528 = .ok (.aload_n 0, 1) := by decide +kernel
theorem dlw_529 : decode code 529 = .ok (.iload_n 3, 1) := by decide +kernel
theorem dlw_530 : decode code 530 = .ok (.iconst 2, 1) := by decide +kernel
theorem dlw_531 : decode code 531 = .ok (.iadd, 1) := by decide +kernel
theorem dlw_532 : decode code 532 = .ok (.iaload, 1) := by decide +kernel
theorem dlw_533 : decode code 533 = .ok (.ifCond .eq 7, 3) := by decide +kernel
theorem dlw_536 : decode code 536 = .ok (.iconst 1, 1) := by decide +kernel
theorem dlw_537 : decode code 537 = .ok (.goto 4, 3) := by decide +kernel
theorem dlw_540 : decode code 540 = .ok (.iconst 0, 1) := by decide +kernel
theorem dlw_541 : decode code 541 = .ok (.invokevirtual 82, 3) := by decide +kernel
theorem dlw_544 : decode code 544 = .ok (.aload_n 2, 1) := by decide +kernel
theorem dlw_545 : decode code 545 = .ok (.aload_n 0, 1) := by decide +kernel
theorem dlw_546 : decode code 546 = .ok (.iload_n 3, 1) := by decide +kernel
theorem dlw_547 : decode code 547 = .ok (.iconst 1, 1) := by decide +kernel
theorem dlw_548 : decode code 548 = .ok (.iadd, 1) := by decide +kernel
theorem dlw_549 : decode code 549 = .ok (.iaload, 1) := by decide +kernel
theorem dlw_550 : decode code 550 = .ok (.aload_n 0, 1) := by decide +kernel
theorem dlw_551 : decode code 551 = .ok (.iload_n 3, 1) := by decide +kernel
theorem dlw_552 : decode code 552 = .ok (.iconst 2, 1) := by decide +kernel
theorem dlw_553 : decode code 553 = .ok (.iadd, 1) := by decide +kernel
theorem dlw_554 : decode code 554 = .ok (.iaload, 1) := by decide +kernel
theorem dlw_555 : decode code 555 = .ok (.ifCond .eq 7, 3) := by decide +kernel
theorem dlw_558 : decode code 558 = .ok (.iconst 1, 1) := by decide +kernel
theorem dlw_559 : decode code 559 = .ok (.goto 4, 3) := by decide +kernel
theorem dlw_562 : decode code 562 = .ok (.iconst 0, 1) := by decide +kernel
theorem dlw_563 : decode code 563 = .ok (.invokevirtual 86, 3) := by decide +kernel
theorem dlw_566 : decode code 566 = .ok (.if_icmp .eq 28, 3) := by decide +kernel
theorem dlw_569 : decode code 569 = .ok (.iconst 0, 1) := by decide +kernel
theorem dlw_570 : decode code 570 = .ok (.ireturn, 1) := by decide +kernel
theorem dlw_571 : decode code 571 = .ok (.aload_n 1, 1) := by decide +kernel
theorem dlw_572 : decode code 572 = .ok (.aload_n 0, 1) := by decide +kernel
theorem dlw_573 : decode code 573 = .ok (.iload_n 3, 1) := by decide +kernel
theorem dlw_574 : decode code 574 = .ok (.iconst 1, 1) := by decide +kernel
theorem dlw_575 : decode code 575 = .ok (.iadd, 1) := by decide +kernel
theorem dlw_576 : decode code 576 = .ok (.iaload, 1) := by decide +kernel
theorem dlw_577 : decode code 577 = .ok (.invokevirtual 87, 3) := by decide +kernel
theorem dlw_580 : decode code 580 = .ok (.aload_n 2, 1) := by decide +kernel
theorem dlw_581 : decode code 581 = .ok (.aload_n 0, 1) := by decide +kernel
theorem dlw_582 : decode code 582 = .ok (.iload_n 3, 1) := by decide +kernel
theorem dlw_583 : decode code 583 = .ok (.iconst 1, 1) := by decide +kernel
theorem dlw_584 : decode code 584 = .ok (.iadd, 1) := by decide +kernel
theorem dlw_585 : decode code 585 = .ok (.iaload, 1) := by decide +kernel
theorem dlw_586 : decode code 586 = .ok (.invokevirtual 90, 3) := by decide +kernel
theorem dlw_589 : decode code 589 = .ok (.if_icmp .eq 5, 3) := by decide +kernel
theorem dlw_592 : decode code 592 = .ok (.iconst 0, 1) := by decide +kernel
theorem dlw_593 : decode code 593 = .ok (.ireturn, 1) := by decide +kernel
theorem dlw_594 : decode code 594 = .ok (.iinc 3 5, 3) := by decide +kernel
theorem dlw_597 : decode code 597 = .ok (.goto (-569), 3) := by decide +kernel
theorem dlw_600 : decode code 600 = .ok (.iconst 1, 1) := by decide +kernel
theorem dlw_601 : decode code 601 = .ok (.ireturn, 1) := by decide +kernel
theorem dlwc_0 : decode method_2_code 0 = .ok (.iload_n 1, 1) := by decide +kernel
theorem dlwc_1 : decode method_2_code 1 = .ok (.aload_n 0, 1) := by decide +kernel
theorem dlwc_2 : decode method_2_code 2 = .ok (.arraylength, 1) := by decide +kernel
theorem dlwc_3 : decode method_2_code 3 = .ok (.if_icmp .ge 9, 3) := by decide +kernel
theorem dlwc_6 : decode method_2_code 6 = .ok (.aload_n 0, 1) := by decide +kernel
theorem dlwc_7 : decode method_2_code 7 = .ok (.iload_n 1, 1) := by decide +kernel
theorem dlwc_8 : decode method_2_code 8 = .ok (.iaload, 1) := by decide +kernel
theorem dlwc_9 : decode method_2_code 9 = .ok (.goto 4, 3) := by decide +kernel
theorem dlwc_12 : decode method_2_code 12 = .ok (.iconst 0, 1) := by decide +kernel
theorem dlwc_13 : decode method_2_code 13 = .ok (.ireturn, 1) := by decide +kernel
