set_option maxRecDepth 20000 in
theorem t188_18 : zT 188 18 = some (.iload_n 3, 1, 0, 0, 0) := by rfl
set_option maxRecDepth 20000 in
theorem t188_19 : zT 188 19 = some (.aload_n 0, 1, 0, 0, 0) := by rfl
set_option maxRecDepth 20000 in
theorem t188_20 : zT 188 20 = some (.arraylength, 1, 0, 0, 0) := by rfl
set_option maxRecDepth 20000 in
theorem t188_21 : zT 188 21 = some (.iconst 4, 1, 0, 0, 0) := by rfl
set_option maxRecDepth 20000 in
theorem t188_22 : zT 188 22 = some (.isub, 1, 0, 0, 0) := by rfl
set_option maxRecDepth 20000 in
theorem t188_23 : zT 188 23 = some (.if_icmp .gt 776, 3, 0, 0, 0) := by rfl
set_option maxRecDepth 20000 in
theorem t188_26 : zT 188 26 = some (.aload_n 0, 1, 0, 0, 0) := by rfl
set_option maxRecDepth 20000 in
theorem t188_27 : zT 188 27 = some (.iload_n 3, 1, 0, 0, 0) := by rfl
set_option maxRecDepth 20000 in
theorem t188_28 : zT 188 28 = some (.iaload, 1, 0, 0, 0) := by rfl
set_option maxRecDepth 20000 in
theorem t188_29 : zT 188 29 = some (.bipush 31, 2, 0, 0, 0) := by rfl
set_option maxRecDepth 20000 in
theorem t188_31 : zT 188 31 = some (.iand, 1, 0, 0, 0) := by rfl
set_option maxRecDepth 20000 in
theorem t188_32 : zT 188 32 = some (.tableswitch 761 0 24 #[116, 129, 162, 175, 218, 241, 264, 287, 300, 313, 346, 379, 412, 445, 478, 501, 534, 567, 600, 623, 676, 689, 702, 715, 738], 116, 0, 0, 0) := by rfl
set_option maxRecDepth 20000 in
theorem t188_148 : zT 188 148 = some (.aload_n 1, 1, 0, 0, 0) := by rfl
set_option maxRecDepth 20000 in
theorem t188_149 : zT 188 149 = some (.invokevirtual 13, 3, 88, 0, 317) := by rfl
set_option maxRecDepth 20000 in
theorem t188_152 : zT 188 152 = some (.aload_n 2, 1, 0, 0, 0) := by rfl
set_option maxRecDepth 20000 in
theorem t188_153 : zT 188 153 = some (.invokevirtual 17, 3, 136, 0, 841) := by rfl
set_option maxRecDepth 20000 in
theorem t188_156 : zT 188 156 = some (.if_icmp .eq 637, 3, 0, 0, 0) := by rfl
set_option maxRecDepth 20000 in
theorem t188_159 : zT 188 159 = some (.iconst 0, 1, 0, 0, 0) := by rfl
set_option maxRecDepth 20000 in
theorem t188_160 : zT 188 160 = some (.ireturn, 1, 0, 0, 0) := by rfl
set_option maxRecDepth 20000 in
theorem t188_161 : zT 188 161 = some (.aload_n 1, 1, 0, 0, 0) := by rfl
set_option maxRecDepth 20000 in
theorem t188_162 : zT 188 162 = some (.aload_n 0, 1, 0, 0, 0) := by rfl
set_option maxRecDepth 20000 in
theorem t188_163 : zT 188 163 = some (.iload_n 3, 1, 0, 0, 0) := by rfl
set_option maxRecDepth 20000 in
theorem t188_164 : zT 188 164 = some (.iconst 1, 1, 0, 0, 0) := by rfl
set_option maxRecDepth 20000 in
theorem t188_165 : zT 188 165 = some (.iadd, 1, 0, 0, 0) := by rfl
set_option maxRecDepth 20000 in
theorem t188_166 : zT 188 166 = some (.iaload, 1, 0, 0, 0) := by rfl
set_option maxRecDepth 20000 in
theorem t188_167 : zT 188 167 = some (.aload_n 0, 1, 0, 0, 0) := by rfl
set_option maxRecDepth 20000 in
theorem t188_168 : zT 188 168 = some (.iload_n 3, 1, 0, 0, 0) := by rfl
set_option maxRecDepth 20000 in
theorem t188_169 : zT 188 169 = some (.iconst 2, 1, 0, 0, 0) := by rfl
set_option maxRecDepth 20000 in
theorem t188_170 : zT 188 170 = some (.iadd, 1, 0, 0, 0) := by rfl
set_option maxRecDepth 20000 in
theorem t188_171 : zT 188 171 = some (.iaload, 1, 0, 0, 0) := by rfl
set_option maxRecDepth 20000 in
theorem t188_172 : zT 188 172 = some (.invokevirtual 18, 3, 89, 0, 387) := by rfl
set_option maxRecDepth 20000 in
theorem t188_175 : zT 188 175 = some (.aload_n 2, 1, 0, 0, 0) := by rfl
set_option maxRecDepth 20000 in
theorem t188_176 : zT 188 176 = some (.aload_n 0, 1, 0, 0, 0) := by rfl
set_option maxRecDepth 20000 in
theorem t188_177 : zT 188 177 = some (.iload_n 3, 1, 0, 0, 0) := by rfl
set_option maxRecDepth 20000 in
theorem t188_178 : zT 188 178 = some (.iconst 1, 1, 0, 0, 0) := by rfl
set_option maxRecDepth 20000 in
theorem t188_179 : zT 188 179 = some (.iadd, 1, 0, 0, 0) := by rfl
set_option maxRecDepth 20000 in
theorem t188_180 : zT 188 180 = some (.iaload, 1, 0, 0, 0) := by rfl
set_option maxRecDepth 20000 in
theorem t188_181 : zT 188 181 = some (.aload_n 0, 1, 0, 0, 0) := by rfl
set_option maxRecDepth 20000 in
theorem t188_182 : zT 188 182 = some (.iload_n 3, 1, 0, 0, 0) := by rfl
set_option maxRecDepth 20000 in
theorem t188_183 : zT 188 183 = some (.iconst 2, 1, 0, 0, 0) := by rfl
set_option maxRecDepth 20000 in
theorem t188_184 : zT 188 184 = some (.iadd, 1, 0, 0, 0) := by rfl
set_option maxRecDepth 20000 in
theorem t188_185 : zT 188 185 = some (.iaload, 1, 0, 0, 0) := by rfl
set_option maxRecDepth 20000 in
theorem t188_186 : zT 188 186 = some (.invokevirtual 22, 3, 137, 0, 852) := by rfl
set_option maxRecDepth 20000 in
theorem t188_189 : zT 188 189 = some (.if_icmp .eq 604, 3, 0, 0, 0) := by rfl
set_option maxRecDepth 20000 in
theorem t188_192 : zT 188 192 = some (.iconst 0, 1, 0, 0, 0) := by rfl
set_option maxRecDepth 20000 in
theorem t188_193 : zT 188 193 = some (.ireturn, 1, 0, 0, 0) := by rfl
set_option maxRecDepth 20000 in
theorem t188_194 : zT 188 194 = some (.aload_n 1, 1, 0, 0, 0) := by rfl
set_option maxRecDepth 20000 in
theorem t188_195 : zT 188 195 = some (.invokevirtual 23, 3, 90, 0, 394) := by rfl
set_option maxRecDepth 20000 in
theorem t188_198 : zT 188 198 = some (.aload_n 2, 1, 0, 0, 0) := by rfl
set_option maxRecDepth 20000 in
theorem t188_199 : zT 188 199 = some (.invokevirtual 26, 3, 142, 0, 859) := by rfl
set_option maxRecDepth 20000 in
theorem t188_202 : zT 188 202 = some (.if_icmp .eq 591, 3, 0, 0, 0) := by rfl
set_option maxRecDepth 20000 in
theorem t188_205 : zT 188 205 = some (.iconst 0, 1, 0, 0, 0) := by rfl
set_option maxRecDepth 20000 in
theorem t188_206 : zT 188 206 = some (.ireturn, 1, 0, 0, 0) := by rfl
set_option maxRecDepth 20000 in
theorem t188_207 : zT 188 207 = some (.aload_n 1, 1, 0, 0, 0) := by rfl
set_option maxRecDepth 20000 in
theorem t188_208 : zT 188 208 = some (.aload_n 0, 1, 0, 0, 0) := by rfl
set_option maxRecDepth 20000 in
theorem t188_209 : zT 188 209 = some (.iload_n 3, 1, 0, 0, 0) := by rfl
set_option maxRecDepth 20000 in
theorem t188_210 : zT 188 210 = some (.iconst 1, 1, 0, 0, 0) := by rfl
set_option maxRecDepth 20000 in
theorem t188_211 : zT 188 211 = some (.iadd, 1, 0, 0, 0) := by rfl
set_option maxRecDepth 20000 in
theorem t188_212 : zT 188 212 = some (.iaload, 1, 0, 0, 0) := by rfl
set_option maxRecDepth 20000 in
theorem t188_213 : zT 188 213 = some (.aload_n 0, 1, 0, 0, 0) := by rfl
set_option maxRecDepth 20000 in
theorem t188_214 : zT 188 214 = some (.iload_n 3, 1, 0, 0, 0) := by rfl
set_option maxRecDepth 20000 in
theorem t188_215 : zT 188 215 = some (.iconst 2, 1, 0, 0, 0) := by rfl
set_option maxRecDepth 20000 in
theorem t188_216 : zT 188 216 = some (.iadd, 1, 0, 0, 0) := by rfl
set_option maxRecDepth 20000 in
theorem t188_217 : zT 188 217 = some (.iaload, 1, 0, 0, 0) := by rfl
set_option maxRecDepth 20000 in
theorem t188_218 : zT 188 218 = some (.aload_n 0, 1, 0, 0, 0) := by rfl
set_option maxRecDepth 20000 in
theorem t188_219 : zT 188 219 = some (.iload_n 3, 1, 0, 0, 0) := by rfl
set_option maxRecDepth 20000 in
theorem t188_220 : zT 188 220 = some (.iconst 3, 1, 0, 0, 0) := by rfl
set_option maxRecDepth 20000 in
theorem t188_221 : zT 188 221 = some (.iadd, 1, 0, 0, 0) := by rfl
set_option maxRecDepth 20000 in
theorem t188_222 : zT 188 222 = some (.iaload, 1, 0, 0, 0) := by rfl
set_option maxRecDepth 20000 in
theorem t188_223 : zT 188 223 = some (.invokevirtual 27, 3, 91, 0, 466) := by rfl
set_option maxRecDepth 20000 in
theorem t188_226 : zT 188 226 = some (.aload_n 2, 1, 0, 0, 0) := by rfl
set_option maxRecDepth 20000 in
theorem t188_227 : zT 188 227 = some (.aload_n 0, 1, 0, 0, 0) := by rfl
set_option maxRecDepth 20000 in
theorem t188_228 : zT 188 228 = some (.iload_n 3, 1, 0, 0, 0) := by rfl
set_option maxRecDepth 20000 in
theorem t188_229 : zT 188 229 = some (.iconst 1, 1, 0, 0, 0) := by rfl
set_option maxRecDepth 20000 in
theorem t188_230 : zT 188 230 = some (.iadd, 1, 0, 0, 0) := by rfl
set_option maxRecDepth 20000 in
theorem t188_231 : zT 188 231 = some (.iaload, 1, 0, 0, 0) := by rfl
set_option maxRecDepth 20000 in
theorem t188_232 : zT 188 232 = some (.aload_n 0, 1, 0, 0, 0) := by rfl
set_option maxRecDepth 20000 in
theorem t188_233 : zT 188 233 = some (.iload_n 3, 1, 0, 0, 0) := by rfl
set_option maxRecDepth 20000 in
theorem t188_234 : zT 188 234 = some (.iconst 2, 1, 0, 0, 0) := by rfl
set_option maxRecDepth 20000 in
theorem t188_235 : zT 188 235 = some (.iadd, 1, 0, 0, 0) := by rfl
set_option maxRecDepth 20000 in
theorem t188_236 : zT 188 236 = some (.iaload, 1, 0, 0, 0) := by rfl
set_option maxRecDepth 20000 in
theorem t188_237 : zT 188 237 = some (.aload_n 0, 1, 0, 0, 0) := by rfl
set_option maxRecDepth 20000 in
theorem t188_238 : zT 188 238 = some (.iload_n 3, 1, 0, 0, 0) := by rfl
set_option maxRecDepth 20000 in
theorem t188_239 : zT 188 239 = some (.iconst 3, 1, 0, 0, 0) := by rfl
set_option maxRecDepth 20000 in
theorem t188_240 : zT 188 240 = some (.iadd, 1, 0, 0, 0) := by rfl
set_option maxRecDepth 20000 in
theorem t188_241 : zT 188 241 = some (.iaload, 1, 0, 0, 0) := by rfl
set_option maxRecDepth 20000 in
theorem t188_242 : zT 188 242 = some (.invokevirtual 31, 3, 143, 0, 915) := by rfl
set_option maxRecDepth 20000 in
theorem t188_245 : zT 188 245 = some (.if_icmp .eq 548, 3, 0, 0, 0) := by rfl
set_option maxRecDepth 20000 in
theorem t188_248 : zT 188 248 = some (.iconst 0, 1, 0, 0, 0) := by rfl
set_option maxRecDepth 20000 in
theorem t188_249 : zT 188 249 = some (.ireturn, 1, 0, 0, 0) := by rfl
set_option maxRecDepth 20000 in
theorem t188_250 : zT 188 250 = some (.aload_n 1, 1, 0, 0, 0) := by rfl
set_option maxRecDepth 20000 in
theorem t188_251 : zT 188 251 = some (.aload_n 0, 1, 0, 0, 0) := by rfl
set_option maxRecDepth 20000 in
theorem t188_252 : zT 188 252 = some (.iload_n 3, 1, 0, 0, 0) := by rfl
set_option maxRecDepth 20000 in
theorem t188_253 : zT 188 253 = some (.iconst 1, 1, 0, 0, 0) := by rfl
set_option maxRecDepth 20000 in
theorem t188_254 : zT 188 254 = some (.iadd, 1, 0, 0, 0) := by rfl
set_option maxRecDepth 20000 in
theorem t188_255 : zT 188 255 = some (.iaload, 1, 0, 0, 0) := by rfl
set_option maxRecDepth 20000 in
theorem t188_256 : zT 188 256 = some (.invokevirtual 32, 3, 92, 0, 474) := by rfl
set_option maxRecDepth 20000 in
theorem t188_259 : zT 188 259 = some (.aload_n 2, 1, 0, 0, 0) := by rfl
set_option maxRecDepth 20000 in
theorem t188_260 : zT 188 260 = some (.aload_n 0, 1, 0, 0, 0) := by rfl
set_option maxRecDepth 20000 in
theorem t188_261 : zT 188 261 = some (.iload_n 3, 1, 0, 0, 0) := by rfl
set_option maxRecDepth 20000 in
theorem t188_262 : zT 188 262 = some (.iconst 1, 1, 0, 0, 0) := by rfl
set_option maxRecDepth 20000 in
theorem t188_263 : zT 188 263 = some (.iadd, 1, 0, 0, 0) := by rfl
set_option maxRecDepth 20000 in
theorem t188_264 : zT 188 264 = some (.iaload, 1, 0, 0, 0) := by rfl
set_option maxRecDepth 20000 in
theorem t188_265 : zT 188 265 = some (.invokevirtual 36, 3, 146, 0, 923) := by rfl
set_option maxRecDepth 20000 in
theorem t188_268 : zT 188 268 = some (.if_icmp .eq 525, 3, 0, 0, 0) := by rfl
set_option maxRecDepth 20000 in
theorem t188_271 : zT 188 271 = some (.iconst 0, 1, 0, 0, 0) := by rfl
set_option maxRecDepth 20000 in
theorem t188_272 : zT 188 272 = some (.ireturn, 1, 0, 0, 0) := by rfl
set_option maxRecDepth 20000 in
theorem t188_273 : zT 188 273 = some (.aload_n 1, 1, 0, 0, 0) := by rfl
set_option maxRecDepth 20000 in
theorem t188_274 : zT 188 274 = some (.aload_n 0, 1, 0, 0, 0) := by rfl
set_option maxRecDepth 20000 in
theorem t188_275 : zT 188 275 = some (.iload_n 3, 1, 0, 0, 0) := by rfl
set_option maxRecDepth 20000 in
theorem t188_276 : zT 188 276 = some (.iconst 1, 1, 0, 0, 0) := by rfl
set_option maxRecDepth 20000 in
theorem t188_277 : zT 188 277 = some (.iadd, 1, 0, 0, 0) := by rfl
set_option maxRecDepth 20000 in
theorem t188_278 : zT 188 278 = some (.iaload, 1, 0, 0, 0) := by rfl
set_option maxRecDepth 20000 in
theorem t188_279 : zT 188 279 = some (.invokevirtual 37, 3, 93, 0, 511) := by rfl
set_option maxRecDepth 20000 in
theorem t188_282 : zT 188 282 = some (.aload_n 2, 1, 0, 0, 0) := by rfl
set_option maxRecDepth 20000 in
theorem t188_283 : zT 188 283 = some (.aload_n 0, 1, 0, 0, 0) := by rfl
set_option maxRecDepth 20000 in
theorem t188_284 : zT 188 284 = some (.iload_n 3, 1, 0, 0, 0) := by rfl
set_option maxRecDepth 20000 in
theorem t188_285 : zT 188 285 = some (.iconst 1, 1, 0, 0, 0) := by rfl
set_option maxRecDepth 20000 in
theorem t188_286 : zT 188 286 = some (.iadd, 1, 0, 0, 0) := by rfl
set_option maxRecDepth 20000 in
theorem t188_287 : zT 188 287 = some (.iaload, 1, 0, 0, 0) := by rfl
set_option maxRecDepth 20000 in
theorem t188_288 : zT 188 288 = some (.invokevirtual 40, 3, 148, 0, 951) := by rfl
set_option maxRecDepth 20000 in
theorem t188_291 : zT 188 291 = some (.if_icmp .eq 502, 3, 0, 0, 0) := by rfl
set_option maxRecDepth 20000 in
theorem t188_294 : zT 188 294 = some (.iconst 0, 1, 0, 0, 0) := by rfl
set_option maxRecDepth 20000 in
theorem t188_295 : zT 188 295 = some (.ireturn, 1, 0, 0, 0) := by rfl
set_option maxRecDepth 20000 in
theorem t188_296 : zT 188 296 = some (.aload_n 1, 1, 0, 0, 0) := by rfl
set_option maxRecDepth 20000 in
theorem t188_297 : zT 188 297 = some (.aload_n 0, 1, 0, 0, 0) := by rfl
set_option maxRecDepth 20000 in
theorem t188_298 : zT 188 298 = some (.iload_n 3, 1, 0, 0, 0) := by rfl
set_option maxRecDepth 20000 in
theorem t188_299 : zT 188 299 = some (.iconst 1, 1, 0, 0, 0) := by rfl
set_option maxRecDepth 20000 in
theorem t188_300 : zT 188 300 = some (.iadd, 1, 0, 0, 0) := by rfl
set_option maxRecDepth 20000 in
theorem t188_301 : zT 188 301 = some (.iaload, 1, 0, 0, 0) := by rfl
set_option maxRecDepth 20000 in
theorem t188_302 : zT 188 302 = some (.invokevirtual 41, 3, 94, 0, 519) := by rfl
set_option maxRecDepth 20000 in
theorem t188_305 : zT 188 305 = some (.aload_n 2, 1, 0, 0, 0) := by rfl
set_option maxRecDepth 20000 in
theorem t188_306 : zT 188 306 = some (.aload_n 0, 1, 0, 0, 0) := by rfl
set_option maxRecDepth 20000 in
theorem t188_307 : zT 188 307 = some (.iload_n 3, 1, 0, 0, 0) := by rfl
set_option maxRecDepth 20000 in
theorem t188_308 : zT 188 308 = some (.iconst 1, 1, 0, 0, 0) := by rfl
set_option maxRecDepth 20000 in
theorem t188_309 : zT 188 309 = some (.iadd, 1, 0, 0, 0) := by rfl
set_option maxRecDepth 20000 in
theorem t188_310 : zT 188 310 = some (.iaload, 1, 0, 0, 0) := by rfl
set_option maxRecDepth 20000 in
theorem t188_311 : zT 188 311 = some (.invokevirtual 44, 3, 150, 0, 959) := by rfl
set_option maxRecDepth 20000 in
theorem t188_314 : zT 188 314 = some (.if_icmp .eq 479, 3, 0, 0, 0) := by rfl
set_option maxRecDepth 20000 in
theorem t188_317 : zT 188 317 = some (.iconst 0, 1, 0, 0, 0) := by rfl
set_option maxRecDepth 20000 in
theorem t188_318 : zT 188 318 = some (.ireturn, 1, 0, 0, 0) := by rfl
set_option maxRecDepth 20000 in
theorem t188_319 : zT 188 319 = some (.aload_n 1, 1, 0, 0, 0) := by rfl
set_option maxRecDepth 20000 in
theorem t188_320 : zT 188 320 = some (.invokevirtual 45, 3, 95, 0, 531) := by rfl
set_option maxRecDepth 20000 in
theorem t188_323 : zT 188 323 = some (.aload_n 2, 1, 0, 0, 0) := by rfl
set_option maxRecDepth 20000 in
theorem t188_324 : zT 188 324 = some (.invokevirtual 48, 3, 153, 0, 967) := by rfl
set_option maxRecDepth 20000 in
theorem t188_327 : zT 188 327 = some (.if_icmp .eq 466, 3, 0, 0, 0) := by rfl
set_option maxRecDepth 20000 in
theorem t188_330 : zT 188 330 = some (.iconst 0, 1, 0, 0, 0) := by rfl
set_option maxRecDepth 20000 in
theorem t188_331 : zT 188 331 = some (.ireturn, 1, 0, 0, 0) := by rfl
set_option maxRecDepth 20000 in
theorem t188_332 : zT 188 332 = some (.aload_n 1, 1, 0, 0, 0) := by rfl
set_option maxRecDepth 20000 in
theorem t188_333 : zT 188 333 = some (.invokevirtual 49, 3, 96, 0, 545) := by rfl
set_option maxRecDepth 20000 in
theorem t188_336 : zT 188 336 = some (.aload_n 2, 1, 0, 0, 0) := by rfl
set_option maxRecDepth 20000 in
theorem t188_337 : zT 188 337 = some (.invokevirtual 52, 3, 156, 0, 979) := by rfl
set_option maxRecDepth 20000 in
theorem t188_340 : zT 188 340 = some (.if_icmp .eq 453, 3, 0, 0, 0) := by rfl
set_option maxRecDepth 20000 in
theorem t188_343 : zT 188 343 = some (.iconst 0, 1, 0, 0, 0) := by rfl
set_option maxRecDepth 20000 in
theorem t188_344 : zT 188 344 = some (.ireturn, 1, 0, 0, 0) := by rfl
set_option maxRecDepth 20000 in
theorem t188_345 : zT 188 345 = some (.aload_n 1, 1, 0, 0, 0) := by rfl
set_option maxRecDepth 20000 in
theorem t188_346 : zT 188 346 = some (.aload_n 0, 1, 0, 0, 0) := by rfl
set_option maxRecDepth 20000 in
theorem t188_347 : zT 188 347 = some (.iload_n 3, 1, 0, 0, 0) := by rfl
set_option maxRecDepth 20000 in
theorem t188_348 : zT 188 348 = some (.iconst 1, 1, 0, 0, 0) := by rfl
set_option maxRecDepth 20000 in
theorem t188_349 : zT 188 349 = some (.iadd, 1, 0, 0, 0) := by rfl
set_option maxRecDepth 20000 in
theorem t188_350 : zT 188 350 = some (.iaload, 1, 0, 0, 0) := by rfl
set_option maxRecDepth 20000 in
theorem t188_351 : zT 188 351 = some (.aload_n 0, 1, 0, 0, 0) := by rfl
set_option maxRecDepth 20000 in
theorem t188_352 : zT 188 352 = some (.iload_n 3, 1, 0, 0, 0) := by rfl
set_option maxRecDepth 20000 in
theorem t188_353 : zT 188 353 = some (.iconst 2, 1, 0, 0, 0) := by rfl
set_option maxRecDepth 20000 in
theorem t188_354 : zT 188 354 = some (.iadd, 1, 0, 0, 0) := by rfl
set_option maxRecDepth 20000 in
theorem t188_355 : zT 188 355 = some (.iaload, 1, 0, 0, 0) := by rfl
set_option maxRecDepth 20000 in
theorem t188_356 : zT 188 356 = some (.invokevirtual 53, 3, 97, 0, 602) := by rfl
set_option maxRecDepth 20000 in
theorem t188_359 : zT 188 359 = some (.aload_n 2, 1, 0, 0, 0) := by rfl
set_option maxRecDepth 20000 in
theorem t188_360 : zT 188 360 = some (.aload_n 0, 1, 0, 0, 0) := by rfl
set_option maxRecDepth 20000 in
theorem t188_361 : zT 188 361 = some (.iload_n 3, 1, 0, 0, 0) := by rfl
set_option maxRecDepth 20000 in
theorem t188_362 : zT 188 362 = some (.iconst 1, 1, 0, 0, 0) := by rfl
set_option maxRecDepth 20000 in
theorem t188_363 : zT 188 363 = some (.iadd, 1, 0, 0, 0) := by rfl
set_option maxRecDepth 20000 in
theorem t188_364 : zT 188 364 = some (.iaload, 1, 0, 0, 0) := by rfl
set_option maxRecDepth 20000 in
theorem t188_365 : zT 188 365 = some (.aload_n 0, 1, 0, 0, 0) := by rfl
set_option maxRecDepth 20000 in
theorem t188_366 : zT 188 366 = some (.iload_n 3, 1, 0, 0, 0) := by rfl
set_option maxRecDepth 20000 in
theorem t188_367 : zT 188 367 = some (.iconst 2, 1, 0, 0, 0) := by rfl
set_option maxRecDepth 20000 in
theorem t188_368 : zT 188 368 = some (.iadd, 1, 0, 0, 0) := by rfl
set_option maxRecDepth 20000 in
theorem t188_369 : zT 188 369 = some (.iaload, 1, 0, 0, 0) := by rfl
set_option maxRecDepth 20000 in
theorem t188_370 : zT 188 370 = some (.invokevirtual 56, 3, 157, 0, 1011) := by rfl
set_option maxRecDepth 20000 in
theorem t188_373 : zT 188 373 = some (.if_icmp .eq 420, 3, 0, 0, 0) := by rfl
set_option maxRecDepth 20000 in
theorem t188_376 : zT 188 376 = some (.iconst 0, 1, 0, 0, 0) := by rfl
set_option maxRecDepth 20000 in
theorem t188_377 : zT 188 377 = some (.ireturn, 1, 0, 0, 0) := by rfl
set_option maxRecDepth 20000 in
theorem t188_378 : zT 188 378 = some (.aload_n 1, 1, 0, 0, 0) := by rfl
set_option maxRecDepth 20000 in
theorem t188_379 : zT 188 379 = some (.aload_n 0, 1, 0, 0, 0) := by rfl
set_option maxRecDepth 20000 in
theorem t188_380 : zT 188 380 = some (.iload_n 3, 1, 0, 0, 0) := by rfl
set_option maxRecDepth 20000 in
theorem t188_381 : zT 188 381 = some (.iconst 1, 1, 0, 0, 0) := by rfl
set_option maxRecDepth 20000 in
theorem t188_382 : zT 188 382 = some (.iadd, 1, 0, 0, 0) := by rfl
set_option maxRecDepth 20000 in
theorem t188_383 : zT 188 383 = some (.iaload, 1, 0, 0, 0) := by rfl
set_option maxRecDepth 20000 in
theorem t188_384 : zT 188 384 = some (.aload_n 0, 1, 0, 0, 0) := by rfl
set_option maxRecDepth 20000 in
theorem t188_385 : zT 188 385 = some (.iload_n 3, 1, 0, 0, 0) := by rfl
set_option maxRecDepth 20000 in
theorem t188_386 : zT 188 386 = some (.iconst 2, 1, 0, 0, 0) := by rfl
set_option maxRecDepth 20000 in
theorem t188_387 : zT 188 387 = some (.iadd, 1, 0, 0, 0) := by rfl
set_option maxRecDepth 20000 in
theorem t188_388 : zT 188 388 = some (.iaload, 1, 0, 0, 0) := by rfl
set_option maxRecDepth 20000 in
theorem t188_389 : zT 188 389 = some (.invokevirtual 57, 3, 98, 0, 611) := by rfl
set_option maxRecDepth 20000 in
theorem t188_392 : zT 188 392 = some (.aload_n 2, 1, 0, 0, 0) := by rfl
set_option maxRecDepth 20000 in
theorem t188_393 : zT 188 393 = some (.aload_n 0, 1, 0, 0, 0) := by rfl
set_option maxRecDepth 20000 in
theorem t188_394 : zT 188 394 = some (.iload_n 3, 1, 0, 0, 0) := by rfl
set_option maxRecDepth 20000 in
theorem t188_395 : zT 188 395 = some (.iconst 1, 1, 0, 0, 0) := by rfl
set_option maxRecDepth 20000 in
theorem t188_396 : zT 188 396 = some (.iadd, 1, 0, 0, 0) := by rfl
set_option maxRecDepth 20000 in
theorem t188_397 : zT 188 397 = some (.iaload, 1, 0, 0, 0) := by rfl
set_option maxRecDepth 20000 in
theorem t188_398 : zT 188 398 = some (.aload_n 0, 1, 0, 0, 0) := by rfl
set_option maxRecDepth 20000 in
theorem t188_399 : zT 188 399 = some (.iload_n 3, 1, 0, 0, 0) := by rfl
set_option maxRecDepth 20000 in
theorem t188_400 : zT 188 400 = some (.iconst 2, 1, 0, 0, 0) := by rfl
set_option maxRecDepth 20000 in
theorem t188_401 : zT 188 401 = some (.iadd, 1, 0, 0, 0) := by rfl
set_option maxRecDepth 20000 in
theorem t188_402 : zT 188 402 = some (.iaload, 1, 0, 0, 0) := by rfl
set_option maxRecDepth 20000 in
theorem t188_403 : zT 188 403 = some (.invokevirtual 60, 3, 158, 0, 1015) := by rfl
set_option maxRecDepth 20000 in
theorem t188_406 : zT 188 406 = some (.if_icmp .eq 387, 3, 0, 0, 0) := by rfl
set_option maxRecDepth 20000 in
theorem t188_409 : zT 188 409 = some (.iconst 0, 1, 0, 0, 0) := by rfl
set_option maxRecDepth 20000 in
theorem t188_410 : zT 188 410 = some (.ireturn, 1, 0, 0, 0) := by rfl
set_option maxRecDepth 20000 in
theorem t188_411 : zT 188 411 = some (.aload_n 1, 1, 0, 0, 0) := by rfl
set_option maxRecDepth 20000 in
theorem t188_412 : zT 188 412 = some (.aload_n 0, 1, 0, 0, 0) := by rfl
set_option maxRecDepth 20000 in
theorem t188_413 : zT 188 413 = some (.iload_n 3, 1, 0, 0, 0) := by rfl
set_option maxRecDepth 20000 in
theorem t188_414 : zT 188 414 = some (.iconst 1, 1, 0, 0, 0) := by rfl
set_option maxRecDepth 20000 in
theorem t188_415 : zT 188 415 = some (.iadd, 1, 0, 0, 0) := by rfl
set_option maxRecDepth 20000 in
theorem t188_416 : zT 188 416 = some (.iaload, 1, 0, 0, 0) := by rfl
set_option maxRecDepth 20000 in
theorem t188_417 : zT 188 417 = some (.aload_n 0, 1, 0, 0, 0) := by rfl
set_option maxRecDepth 20000 in
theorem t188_418 : zT 188 418 = some (.iload_n 3, 1, 0, 0, 0) := by rfl
set_option maxRecDepth 20000 in
theorem t188_419 : zT 188 419 = some (.iconst 2, 1, 0, 0, 0) := by rfl
set_option maxRecDepth 20000 in
theorem t188_420 : zT 188 420 = some (.iadd, 1, 0, 0, 0) := by rfl
set_option maxRecDepth 20000 in
theorem t188_421 : zT 188 421 = some (.iaload, 1, 0, 0, 0) := by rfl
set_option maxRecDepth 20000 in
theorem t188_422 : zT 188 422 = some (.invokevirtual 61, 3, 99, 0, 623) := by rfl
set_option maxRecDepth 20000 in
theorem t188_425 : zT 188 425 = some (.aload_n 2, 1, 0, 0, 0) := by rfl
set_option maxRecDepth 20000 in
theorem t188_426 : zT 188 426 = some (.aload_n 0, 1, 0, 0, 0) := by rfl
set_option maxRecDepth 20000 in
theorem t188_427 : zT 188 427 = some (.iload_n 3, 1, 0, 0, 0) := by rfl
set_option maxRecDepth 20000 in
theorem t188_428 : zT 188 428 = some (.iconst 1, 1, 0, 0, 0) := by rfl
set_option maxRecDepth 20000 in
theorem t188_429 : zT 188 429 = some (.iadd, 1, 0, 0, 0) := by rfl
set_option maxRecDepth 20000 in
theorem t188_430 : zT 188 430 = some (.iaload, 1, 0, 0, 0) := by rfl
set_option maxRecDepth 20000 in
theorem t188_431 : zT 188 431 = some (.aload_n 0, 1, 0, 0, 0) := by rfl
set_option maxRecDepth 20000 in
theorem t188_432 : zT 188 432 = some (.iload_n 3, 1, 0, 0, 0) := by rfl
set_option maxRecDepth 20000 in
theorem t188_433 : zT 188 433 = some (.iconst 2, 1, 0, 0, 0) := by rfl
set_option maxRecDepth 20000 in
theorem t188_434 : zT 188 434 = some (.iadd, 1, 0, 0, 0) := by rfl
set_option maxRecDepth 20000 in
theorem t188_435 : zT 188 435 = some (.iaload, 1, 0, 0, 0) := by rfl
set_option maxRecDepth 20000 in
theorem t188_436 : zT 188 436 = some (.invokevirtual 64, 3, 160, 0, 1027) := by rfl
set_option maxRecDepth 20000 in
theorem t188_439 : zT 188 439 = some (.if_icmp .eq 354, 3, 0, 0, 0) := by rfl
set_option maxRecDepth 20000 in
theorem t188_442 : zT 188 442 = some (.iconst 0, 1, 0, 0, 0) := by rfl
set_option maxRecDepth 20000 in
theorem t188_443 : zT 188 443 = some (.ireturn, 1, 0, 0, 0) := by rfl
set_option maxRecDepth 20000 in
theorem t188_444 : zT 188 444 = some (.aload_n 1, 1, 0, 0, 0) := by rfl
set_option maxRecDepth 20000 in
theorem t188_445 : zT 188 445 = some (.aload_n 0, 1, 0, 0, 0) := by rfl
set_option maxRecDepth 20000 in
theorem t188_446 : zT 188 446 = some (.iload_n 3, 1, 0, 0, 0) := by rfl
set_option maxRecDepth 20000 in
theorem t188_447 : zT 188 447 = some (.iconst 1, 1, 0, 0, 0) := by rfl
set_option maxRecDepth 20000 in
theorem t188_448 : zT 188 448 = some (.iadd, 1, 0, 0, 0) := by rfl
set_option maxRecDepth 20000 in
theorem t188_449 : zT 188 449 = some (.iaload, 1, 0, 0, 0) := by rfl
set_option maxRecDepth 20000 in
theorem t188_450 : zT 188 450 = some (.aload_n 0, 1, 0, 0, 0) := by rfl
set_option maxRecDepth 20000 in
theorem t188_451 : zT 188 451 = some (.iload_n 3, 1, 0, 0, 0) := by rfl
set_option maxRecDepth 20000 in
theorem t188_452 : zT 188 452 = some (.iconst 2, 1, 0, 0, 0) := by rfl
set_option maxRecDepth 20000 in
theorem t188_453 : zT 188 453 = some (.iadd, 1, 0, 0, 0) := by rfl
set_option maxRecDepth 20000 in
theorem t188_454 : zT 188 454 = some (.iaload, 1, 0, 0, 0) := by rfl
set_option maxRecDepth 20000 in
theorem t188_455 : zT 188 455 = some (.invokevirtual 65, 3, 100, 0, 636) := by rfl
set_option maxRecDepth 20000 in
theorem t188_458 : zT 188 458 = some (.aload_n 2, 1, 0, 0, 0) := by rfl
set_option maxRecDepth 20000 in
theorem t188_459 : zT 188 459 = some (.aload_n 0, 1, 0, 0, 0) := by rfl
set_option maxRecDepth 20000 in
theorem t188_460 : zT 188 460 = some (.iload_n 3, 1, 0, 0, 0) := by rfl
set_option maxRecDepth 20000 in
theorem t188_461 : zT 188 461 = some (.iconst 1, 1, 0, 0, 0) := by rfl
set_option maxRecDepth 20000 in
theorem t188_462 : zT 188 462 = some (.iadd, 1, 0, 0, 0) := by rfl
set_option maxRecDepth 20000 in
theorem t188_463 : zT 188 463 = some (.iaload, 1, 0, 0, 0) := by rfl
set_option maxRecDepth 20000 in
theorem t188_464 : zT 188 464 = some (.aload_n 0, 1, 0, 0, 0) := by rfl
set_option maxRecDepth 20000 in
theorem t188_465 : zT 188 465 = some (.iload_n 3, 1, 0, 0, 0) := by rfl
set_option maxRecDepth 20000 in
theorem t188_466 : zT 188 466 = some (.iconst 2, 1, 0, 0, 0) := by rfl
set_option maxRecDepth 20000 in
theorem t188_467 : zT 188 467 = some (.iadd, 1, 0, 0, 0) := by rfl
set_option maxRecDepth 20000 in
theorem t188_468 : zT 188 468 = some (.iaload, 1, 0, 0, 0) := by rfl
set_option maxRecDepth 20000 in
theorem t188_469 : zT 188 469 = some (.invokevirtual 68, 3, 161, 0, 1039) := by rfl
set_option maxRecDepth 20000 in
theorem t188_472 : zT 188 472 = some (.if_icmp .eq 321, 3, 0, 0, 0) := by rfl
set_option maxRecDepth 20000 in
theorem t188_475 : zT 188 475 = some (.iconst 0, 1, 0, 0, 0) := by rfl
set_option maxRecDepth 20000 in
theorem t188_476 : zT 188 476 = some (.ireturn, 1, 0, 0, 0) := by rfl
set_option maxRecDepth 20000 in
theorem t188_477 : zT 188 477 = some (.aload_n 1, 1, 0, 0, 0) := by rfl
set_option maxRecDepth 20000 in
theorem t188_478 : zT 188 478 = some (.aload_n 0, 1, 0, 0, 0) := by rfl
set_option maxRecDepth 20000 in
theorem t188_479 : zT 188 479 = some (.iload_n 3, 1, 0, 0, 0) := by rfl
set_option maxRecDepth 20000 in
theorem t188_480 : zT 188 480 = some (.iconst 1, 1, 0, 0, 0) := by rfl
set_option maxRecDepth 20000 in
theorem t188_481 : zT 188 481 = some (.iadd, 1, 0, 0, 0) := by rfl
set_option maxRecDepth 20000 in
theorem t188_482 : zT 188 482 = some (.iaload, 1, 0, 0, 0) := by rfl
set_option maxRecDepth 20000 in
theorem t188_483 : zT 188 483 = some (.aload_n 0, 1, 0, 0, 0) := by rfl
set_option maxRecDepth 20000 in
theorem t188_484 : zT 188 484 = some (.iload_n 3, 1, 0, 0, 0) := by rfl
set_option maxRecDepth 20000 in
theorem t188_485 : zT 188 485 = some (.iconst 2, 1, 0, 0, 0) := by rfl
set_option maxRecDepth 20000 in
theorem t188_486 : zT 188 486 = some (.iadd, 1, 0, 0, 0) := by rfl
set_option maxRecDepth 20000 in
theorem t188_487 : zT 188 487 = some (.iaload, 1, 0, 0, 0) := by rfl
set_option maxRecDepth 20000 in
theorem t188_488 : zT 188 488 = some (.invokevirtual 69, 3, 101, 0, 642) := by rfl
set_option maxRecDepth 20000 in
theorem t188_491 : zT 188 491 = some (.aload_n 2, 1, 0, 0, 0) := by rfl
set_option maxRecDepth 20000 in
theorem t188_492 : zT 188 492 = some (.aload_n 0, 1, 0, 0, 0) := by rfl
set_option maxRecDepth 20000 in
theorem t188_493 : zT 188 493 = some (.iload_n 3, 1, 0, 0, 0) := by rfl
set_option maxRecDepth 20000 in
theorem t188_494 : zT 188 494 = some (.iconst 1, 1, 0, 0, 0) := by rfl
set_option maxRecDepth 20000 in
theorem t188_495 : zT 188 495 = some (.iadd, 1, 0, 0, 0) := by rfl
set_option maxRecDepth 20000 in
theorem t188_496 : zT 188 496 = some (.iaload, 1, 0, 0, 0) := by rfl
set_option maxRecDepth 20000 in
theorem t188_497 : zT 188 497 = some (.aload_n 0, 1, 0, 0, 0) := by rfl
set_option maxRecDepth 20000 in
theorem t188_498 : zT 188 498 = some (.iload_n 3, 1, 0, 0, 0) := by rfl
set_option maxRecDepth 20000 in
theorem t188_499 : zT 188 499 = some (.iconst 2, 1, 0, 0, 0) := by rfl
set_option maxRecDepth 20000 in
theorem t188_500 : zT 188 500 = some (.iadd, 1, 0, 0, 0) := by rfl
set_option maxRecDepth 20000 in
theorem t188_501 : zT 188 501 = some (.iaload, 1, 0, 0, 0) := by rfl
set_option maxRecDepth 20000 in
theorem t188_502 : zT 188 502 = some (.invokevirtual 72, 3, 163, 0, 1043) := by rfl
set_option maxRecDepth 20000 in
theorem t188_505 : zT 188 505 = some (.if_icmp .eq 288, 3, 0, 0, 0) := by rfl
set_option maxRecDepth 20000 in
theorem t188_508 : zT 188 508 = some (.iconst 0, 1, 0, 0, 0) := by rfl
set_option maxRecDepth 20000 in
theorem t188_509 : zT 188 509 = some (.ireturn, 1, 0, 0, 0) := by rfl
set_option maxRecDepth 20000 in
theorem t188_510 : zT 188 510 = some (.aload_n 1, 1, 0, 0, 0) := by rfl
set_option maxRecDepth 20000 in
theorem t188_511 : zT 188 511 = some (.aload_n 0, 1, 0, 0, 0) := by rfl
set_option maxRecDepth 20000 in
theorem t188_512 : zT 188 512 = some (.iload_n 3, 1, 0, 0, 0) := by rfl
set_option maxRecDepth 20000 in
theorem t188_513 : zT 188 513 = some (.iconst 1, 1, 0, 0, 0) := by rfl
set_option maxRecDepth 20000 in
theorem t188_514 : zT 188 514 = some (.iadd, 1, 0, 0, 0) := by rfl
set_option maxRecDepth 20000 in
theorem t188_515 : zT 188 515 = some (.iaload, 1, 0, 0, 0) := by rfl
set_option maxRecDepth 20000 in
theorem t188_516 : zT 188 516 = some (.invokevirtual 73, 3, 102, 0, 663) := by rfl
set_option maxRecDepth 20000 in
theorem t188_519 : zT 188 519 = some (.aload_n 2, 1, 0, 0, 0) := by rfl
set_option maxRecDepth 20000 in
theorem t188_520 : zT 188 520 = some (.aload_n 0, 1, 0, 0, 0) := by rfl
set_option maxRecDepth 20000 in
theorem t188_521 : zT 188 521 = some (.iload_n 3, 1, 0, 0, 0) := by rfl
set_option maxRecDepth 20000 in
theorem t188_522 : zT 188 522 = some (.iconst 1, 1, 0, 0, 0) := by rfl
set_option maxRecDepth 20000 in
theorem t188_523 : zT 188 523 = some (.iadd, 1, 0, 0, 0) := by rfl
set_option maxRecDepth 20000 in
theorem t188_524 : zT 188 524 = some (.iaload, 1, 0, 0, 0) := by rfl
set_option maxRecDepth 20000 in
theorem t188_525 : zT 188 525 = some (.invokevirtual 76, 3, 165, 0, 1051) := by rfl
set_option maxRecDepth 20000 in
theorem t188_528 : zT 188 528 = some (.if_icmp .eq 265, 3, 0, 0, 0) := by rfl
set_option maxRecDepth 20000 in
theorem t188_531 : zT 188 531 = some (.iconst 0, 1, 0, 0, 0) := by rfl
set_option maxRecDepth 20000 in
theorem t188_532 : zT 188 532 = some (.ireturn, 1, 0, 0, 0) := by rfl
set_option maxRecDepth 20000 in
theorem t188_533 : zT 188 533 = some (.aload_n 1, 1, 0, 0, 0) := by rfl
set_option maxRecDepth 20000 in
theorem t188_534 : zT 188 534 = some (.aload_n 0, 1, 0, 0, 0) := by rfl
set_option maxRecDepth 20000 in
theorem t188_535 : zT 188 535 = some (.iload_n 3, 1, 0, 0, 0) := by rfl
set_option maxRecDepth 20000 in
theorem t188_536 : zT 188 536 = some (.iconst 1, 1, 0, 0, 0) := by rfl
set_option maxRecDepth 20000 in
theorem t188_537 : zT 188 537 = some (.iadd, 1, 0, 0, 0) := by rfl
set_option maxRecDepth 20000 in
theorem t188_538 : zT 188 538 = some (.iaload, 1, 0, 0, 0) := by rfl
set_option maxRecDepth 20000 in
theorem t188_539 : zT 188 539 = some (.aload_n 0, 1, 0, 0, 0) := by rfl
set_option maxRecDepth 20000 in
theorem t188_540 : zT 188 540 = some (.iload_n 3, 1, 0, 0, 0) := by rfl
set_option maxRecDepth 20000 in
theorem t188_541 : zT 188 541 = some (.iconst 2, 1, 0, 0, 0) := by rfl
set_option maxRecDepth 20000 in
theorem t188_542 : zT 188 542 = some (.iadd, 1, 0, 0, 0) := by rfl
set_option maxRecDepth 20000 in
theorem t188_543 : zT 188 543 = some (.iaload, 1, 0, 0, 0) := by rfl
set_option maxRecDepth 20000 in
theorem t188_544 : zT 188 544 = some (.invokevirtual 77, 3, 103, 0, 677) := by rfl
set_option maxRecDepth 20000 in
theorem t188_547 : zT 188 547 = some (.aload_n 2, 1, 0, 0, 0) := by rfl
set_option maxRecDepth 20000 in
theorem t188_548 : zT 188 548 = some (.aload_n 0, 1, 0, 0, 0) := by rfl
set_option maxRecDepth 20000 in
theorem t188_549 : zT 188 549 = some (.iload_n 3, 1, 0, 0, 0) := by rfl
set_option maxRecDepth 20000 in
theorem t188_550 : zT 188 550 = some (.iconst 1, 1, 0, 0, 0) := by rfl
set_option maxRecDepth 20000 in
theorem t188_551 : zT 188 551 = some (.iadd, 1, 0, 0, 0) := by rfl
set_option maxRecDepth 20000 in
theorem t188_552 : zT 188 552 = some (.iaload, 1, 0, 0, 0) := by rfl
set_option maxRecDepth 20000 in
theorem t188_553 : zT 188 553 = some (.aload_n 0, 1, 0, 0, 0) := by rfl
set_option maxRecDepth 20000 in
theorem t188_554 : zT 188 554 = some (.iload_n 3, 1, 0, 0, 0) := by rfl
set_option maxRecDepth 20000 in
theorem t188_555 : zT 188 555 = some (.iconst 2, 1, 0, 0, 0) := by rfl
set_option maxRecDepth 20000 in
theorem t188_556 : zT 188 556 = some (.iadd, 1, 0, 0, 0) := by rfl
set_option maxRecDepth 20000 in
theorem t188_557 : zT 188 557 = some (.iaload, 1, 0, 0, 0) := by rfl
set_option maxRecDepth 20000 in
theorem t188_558 : zT 188 558 = some (.invokevirtual 80, 3, 167, 0, 1059) := by rfl
set_option maxRecDepth 20000 in
theorem t188_561 : zT 188 561 = some (.if_icmp .eq 232, 3, 0, 0, 0) := by rfl
set_option maxRecDepth 20000 in
theorem t188_564 : zT 188 564 = some (.iconst 0, 1, 0, 0, 0) := by rfl
set_option maxRecDepth 20000 in
theorem t188_565 : zT 188 565 = some (.ireturn, 1, 0, 0, 0) := by rfl
set_option maxRecDepth 20000 in
theorem t188_566 : zT 188 566 = some (.aload_n 1, 1, 0, 0, 0) := by rfl
set_option maxRecDepth 20000 in
theorem t188_567 : zT 188 567 = some (.aload_n 0, 1, 0, 0, 0) := by rfl
set_option maxRecDepth 20000 in
theorem t188_568 : zT 188 568 = some (.iload_n 3, 1, 0, 0, 0) := by rfl
set_option maxRecDepth 20000 in
theorem t188_569 : zT 188 569 = some (.iconst 1, 1, 0, 0, 0) := by rfl
set_option maxRecDepth 20000 in
theorem t188_570 : zT 188 570 = some (.iadd, 1, 0, 0, 0) := by rfl
set_option maxRecDepth 20000 in
theorem t188_571 : zT 188 571 = some (.iaload, 1, 0, 0, 0) := by rfl
set_option maxRecDepth 20000 in
theorem t188_572 : zT 188 572 = some (.aload_n 0, 1, 0, 0, 0) := by rfl
set_option maxRecDepth 20000 in
theorem t188_573 : zT 188 573 = some (.iload_n 3, 1, 0, 0, 0) := by rfl
set_option maxRecDepth 20000 in
theorem t188_574 : zT 188 574 = some (.iconst 2, 1, 0, 0, 0) := by rfl
set_option maxRecDepth 20000 in
theorem t188_575 : zT 188 575 = some (.iadd, 1, 0, 0, 0) := by rfl
set_option maxRecDepth 20000 in
theorem t188_576 : zT 188 576 = some (.iaload, 1, 0, 0, 0) := by rfl
set_option maxRecDepth 20000 in
theorem t188_577 : zT 188 577 = some (.invokevirtual 81, 3, 104, 0, 703) := by rfl
set_option maxRecDepth 20000 in
theorem t188_580 : zT 188 580 = some (.aload_n 2, 1, 0, 0, 0) := by rfl
set_option maxRecDepth 20000 in
theorem t188_581 : zT 188 581 = some (.aload_n 0, 1, 0, 0, 0) := by rfl
set_option maxRecDepth 20000 in
theorem t188_582 : zT 188 582 = some (.iload_n 3, 1, 0, 0, 0) := by rfl
set_option maxRecDepth 20000 in
theorem t188_583 : zT 188 583 = some (.iconst 1, 1, 0, 0, 0) := by rfl
set_option maxRecDepth 20000 in
theorem t188_584 : zT 188 584 = some (.iadd, 1, 0, 0, 0) := by rfl
set_option maxRecDepth 20000 in
theorem t188_585 : zT 188 585 = some (.iaload, 1, 0, 0, 0) := by rfl
set_option maxRecDepth 20000 in
theorem t188_586 : zT 188 586 = some (.aload_n 0, 1, 0, 0, 0) := by rfl
set_option maxRecDepth 20000 in
theorem t188_587 : zT 188 587 = some (.iload_n 3, 1, 0, 0, 0) := by rfl
set_option maxRecDepth 20000 in
theorem t188_588 : zT 188 588 = some (.iconst 2, 1, 0, 0, 0) := by rfl
set_option maxRecDepth 20000 in
theorem t188_589 : zT 188 589 = some (.iadd, 1, 0, 0, 0) := by rfl
set_option maxRecDepth 20000 in
theorem t188_590 : zT 188 590 = some (.iaload, 1, 0, 0, 0) := by rfl
set_option maxRecDepth 20000 in
theorem t188_591 : zT 188 591 = some (.invokevirtual 84, 3, 169, 0, 1067) := by rfl
set_option maxRecDepth 20000 in
theorem t188_594 : zT 188 594 = some (.if_icmp .eq 199, 3, 0, 0, 0) := by rfl
set_option maxRecDepth 20000 in
theorem t188_597 : zT 188 597 = some (.iconst 0, 1, 0, 0, 0) := by rfl
set_option maxRecDepth 20000 in
theorem t188_598 : zT 188 598 = some (.ireturn, 1, 0, 0, 0) := by rfl
set_option maxRecDepth 20000 in
theorem t188_599 : zT 188 599 = some (.aload_n 1, 1, 0, 0, 0) := by rfl
set_option maxRecDepth 20000 in
theorem t188_600 : zT 188 600 = some (.aload_n 0, 1, 0, 0, 0) := by rfl
set_option maxRecDepth 20000 in
theorem t188_601 : zT 188 601 = some (.iload_n 3, 1, 0, 0, 0) := by rfl
set_option maxRecDepth 20000 in
theorem t188_602 : zT 188 602 = some (.iconst 1, 1, 0, 0, 0) := by rfl
set_option maxRecDepth 20000 in
theorem t188_603 : zT 188 603 = some (.iadd, 1, 0, 0, 0) := by rfl
set_option maxRecDepth 20000 in
theorem t188_604 : zT 188 604 = some (.iaload, 1, 0, 0, 0) := by rfl
set_option maxRecDepth 20000 in
theorem t188_605 : zT 188 605 = some (.aload_n 0, 1, 0, 0, 0) := by rfl
set_option maxRecDepth 20000 in
theorem t188_606 : zT 188 606 = some (.iload_n 3, 1, 0, 0, 0) := by rfl
set_option maxRecDepth 20000 in
theorem t188_607 : zT 188 607 = some (.iconst 2, 1, 0, 0, 0) := by rfl
set_option maxRecDepth 20000 in
theorem t188_608 : zT 188 608 = some (.iadd, 1, 0, 0, 0) := by rfl
set_option maxRecDepth 20000 in
theorem t188_609 : zT 188 609 = some (.iaload, 1, 0, 0, 0) := by rfl
set_option maxRecDepth 20000 in
theorem t188_610 : zT 188 610 = some (.invokevirtual 85, 3, 105, 0, 711) := by rfl
set_option maxRecDepth 20000 in
theorem t188_613 : zT 188 613 = some (.aload_n 2, 1, 0, 0, 0) := by rfl
set_option maxRecDepth 20000 in
theorem t188_614 : zT 188 614 = some (.aload_n 0, 1, 0, 0, 0) := by rfl
set_option maxRecDepth 20000 in
theorem t188_615 : zT 188 615 = some (.iload_n 3, 1, 0, 0, 0) := by rfl
set_option maxRecDepth 20000 in
theorem t188_616 : zT 188 616 = some (.iconst 1, 1, 0, 0, 0) := by rfl
set_option maxRecDepth 20000 in
theorem t188_617 : zT 188 617 = some (.iadd, 1, 0, 0, 0) := by rfl
set_option maxRecDepth 20000 in
theorem t188_618 : zT 188 618 = some (.iaload, 1, 0, 0, 0) := by rfl
set_option maxRecDepth 20000 in
theorem t188_619 : zT 188 619 = some (.aload_n 0, 1, 0, 0, 0) := by rfl
set_option maxRecDepth 20000 in
theorem t188_620 : zT 188 620 = some (.iload_n 3, 1, 0, 0, 0) := by rfl
set_option maxRecDepth 20000 in
theorem t188_621 : zT 188 621 = some (.iconst 2, 1, 0, 0, 0) := by rfl
set_option maxRecDepth 20000 in
theorem t188_622 : zT 188 622 = some (.iadd, 1, 0, 0, 0) := by rfl
set_option maxRecDepth 20000 in
theorem t188_623 : zT 188 623 = some (.iaload, 1, 0, 0, 0) := by rfl
set_option maxRecDepth 20000 in
theorem t188_624 : zT 188 624 = some (.invokevirtual 88, 3, 170, 0, 1075) := by rfl
set_option maxRecDepth 20000 in
theorem t188_627 : zT 188 627 = some (.if_icmp .eq 166, 3, 0, 0, 0) := by rfl
set_option maxRecDepth 20000 in
theorem t188_630 : zT 188 630 = some (.iconst 0, 1, 0, 0, 0) := by rfl
set_option maxRecDepth 20000 in
theorem t188_631 : zT 188 631 = some (.ireturn, 1, 0, 0, 0) := by rfl
set_option maxRecDepth 20000 in
theorem t188_632 : zT 188 632 = some (.aload_n 1, 1, 0, 0, 0) := by rfl
set_option maxRecDepth 20000 in
theorem t188_633 : zT 188 633 = some (.aload_n 0, 1, 0, 0, 0) := by rfl
set_option maxRecDepth 20000 in
theorem t188_634 : zT 188 634 = some (.iload_n 3, 1, 0, 0, 0) := by rfl
set_option maxRecDepth 20000 in
theorem t188_635 : zT 188 635 = some (.iconst 1, 1, 0, 0, 0) := by rfl
set_option maxRecDepth 20000 in
theorem t188_636 : zT 188 636 = some (.iadd, 1, 0, 0, 0) := by rfl
set_option maxRecDepth 20000 in
theorem t188_637 : zT 188 637 = some (.iaload, 1, 0, 0, 0) := by rfl
set_option maxRecDepth 20000 in
theorem t188_638 : zT 188 638 = some (.invokevirtual 89, 3, 106, 0, 720) := by rfl
set_option maxRecDepth 20000 in
theorem t188_641 : zT 188 641 = some (.aload_n 2, 1, 0, 0, 0) := by rfl
set_option maxRecDepth 20000 in
theorem t188_642 : zT 188 642 = some (.aload_n 0, 1, 0, 0, 0) := by rfl
set_option maxRecDepth 20000 in
theorem t188_643 : zT 188 643 = some (.iload_n 3, 1, 0, 0, 0) := by rfl
set_option maxRecDepth 20000 in
theorem t188_644 : zT 188 644 = some (.iconst 1, 1, 0, 0, 0) := by rfl
set_option maxRecDepth 20000 in
theorem t188_645 : zT 188 645 = some (.iadd, 1, 0, 0, 0) := by rfl
set_option maxRecDepth 20000 in
theorem t188_646 : zT 188 646 = some (.iaload, 1, 0, 0, 0) := by rfl
set_option maxRecDepth 20000 in
theorem t188_647 : zT 188 647 = some (.invokevirtual 92, 3, 171, 0, 1079) := by rfl
set_option maxRecDepth 20000 in
theorem t188_650 : zT 188 650 = some (.if_icmp .eq 143, 3, 0, 0, 0) := by rfl
set_option maxRecDepth 20000 in
theorem t188_653 : zT 188 653 = some (.iconst 0, 1, 0, 0, 0) := by rfl
set_option maxRecDepth 20000 in
theorem t188_654 : zT 188 654 = some (.ireturn, 1, 0, 0, 0) := by rfl
set_option maxRecDepth 20000 in
theorem t188_655 : zT 188 655 = some (.aload_n 1, 1, 0, 0, 0) := by rfl
set_option maxRecDepth 20000 in
theorem t188_656 : zT 188 656 = some (.aload_n 0, 1, 0, 0, 0) := by rfl
set_option maxRecDepth 20000 in
theorem t188_657 : zT 188 657 = some (.iload_n 3, 1, 0, 0, 0) := by rfl
set_option maxRecDepth 20000 in
theorem t188_658 : zT 188 658 = some (.iconst 1, 1, 0, 0, 0) := by rfl
set_option maxRecDepth 20000 in
theorem t188_659 : zT 188 659 = some (.iadd, 1, 0, 0, 0) := by rfl
set_option maxRecDepth 20000 in
theorem t188_660 : zT 188 660 = some (.iaload, 1, 0, 0, 0) := by rfl
set_option maxRecDepth 20000 in
theorem t188_661 : zT 188 661 = some (.i2l, 1, 0, 0, 0) := by rfl
set_option maxRecDepth 20000 in
theorem t188_662 : zT 188 662 = some (.bipush 32, 2, 0, 0, 0) := by rfl
set_option maxRecDepth 20000 in
theorem t188_664 : zT 188 664 = some (.lshl, 1, 0, 0, 0) := by rfl
set_option maxRecDepth 20000 in
theorem t188_665 : zT 188 665 = some (.aload_n 0, 1, 0, 0, 0) := by rfl
set_option maxRecDepth 20000 in
theorem t188_666 : zT 188 666 = some (.iload_n 3, 1, 0, 0, 0) := by rfl
set_option maxRecDepth 20000 in
theorem t188_667 : zT 188 667 = some (.iconst 2, 1, 0, 0, 0) := by rfl
set_option maxRecDepth 20000 in
theorem t188_668 : zT 188 668 = some (.iadd, 1, 0, 0, 0) := by rfl
set_option maxRecDepth 20000 in
theorem t188_669 : zT 188 669 = some (.iaload, 1, 0, 0, 0) := by rfl
set_option maxRecDepth 20000 in
theorem t188_670 : zT 188 670 = some (.i2l, 1, 0, 0, 0) := by rfl
set_option maxRecDepth 20000 in
theorem t188_671 : zT 188 671 = some (.ldc2_w 93, 3, 4294967295, 0, 1116) := by rfl
set_option maxRecDepth 20000 in
theorem t188_674 : zT 188 674 = some (.land, 1, 0, 0, 0) := by rfl
set_option maxRecDepth 20000 in
theorem t188_675 : zT 188 675 = some (.lor, 1, 0, 0, 0) := by rfl
set_option maxRecDepth 20000 in
theorem t188_676 : zT 188 676 = some (.invokevirtual 95, 3, 107, 0, 729) := by rfl
set_option maxRecDepth 20000 in
theorem t188_679 : zT 188 679 = some (.aload_n 2, 1, 0, 0, 0) := by rfl
set_option maxRecDepth 20000 in
theorem t188_680 : zT 188 680 = some (.aload_n 0, 1, 0, 0, 0) := by rfl
set_option maxRecDepth 20000 in
theorem t188_681 : zT 188 681 = some (.iload_n 3, 1, 0, 0, 0) := by rfl
set_option maxRecDepth 20000 in
theorem t188_682 : zT 188 682 = some (.iconst 1, 1, 0, 0, 0) := by rfl
set_option maxRecDepth 20000 in
theorem t188_683 : zT 188 683 = some (.iadd, 1, 0, 0, 0) := by rfl
set_option maxRecDepth 20000 in
theorem t188_684 : zT 188 684 = some (.iaload, 1, 0, 0, 0) := by rfl
set_option maxRecDepth 20000 in
theorem t188_685 : zT 188 685 = some (.i2l, 1, 0, 0, 0) := by rfl
set_option maxRecDepth 20000 in
theorem t188_686 : zT 188 686 = some (.bipush 32, 2, 0, 0, 0) := by rfl
set_option maxRecDepth 20000 in
theorem t188_688 : zT 188 688 = some (.lshl, 1, 0, 0, 0) := by rfl
set_option maxRecDepth 20000 in
theorem t188_689 : zT 188 689 = some (.aload_n 0, 1, 0, 0, 0) := by rfl
set_option maxRecDepth 20000 in
theorem t188_690 : zT 188 690 = some (.iload_n 3, 1, 0, 0, 0) := by rfl
set_option maxRecDepth 20000 in
theorem t188_691 : zT 188 691 = some (.iconst 2, 1, 0, 0, 0) := by rfl
set_option maxRecDepth 20000 in
theorem t188_692 : zT 188 692 = some (.iadd, 1, 0, 0, 0) := by rfl
set_option maxRecDepth 20000 in
theorem t188_693 : zT 188 693 = some (.iaload, 1, 0, 0, 0) := by rfl
set_option maxRecDepth 20000 in
theorem t188_694 : zT 188 694 = some (.i2l, 1, 0, 0, 0) := by rfl
set_option maxRecDepth 20000 in
theorem t188_695 : zT 188 695 = some (.ldc2_w 93, 3, 4294967295, 0, 1116) := by rfl
set_option maxRecDepth 20000 in
theorem t188_698 : zT 188 698 = some (.land, 1, 0, 0, 0) := by rfl
set_option maxRecDepth 20000 in
theorem t188_699 : zT 188 699 = some (.lor, 1, 0, 0, 0) := by rfl
set_option maxRecDepth 20000 in
theorem t188_700 : zT 188 700 = some (.invokevirtual 99, 3, 172, 0, 1091) := by rfl
set_option maxRecDepth 20000 in
theorem t188_703 : zT 188 703 = some (.if_icmp .eq 90, 3, 0, 0, 0) := by rfl
set_option maxRecDepth 20000 in
theorem t188_706 : zT 188 706 = some (.iconst 0, 1, 0, 0, 0) := by rfl
set_option maxRecDepth 20000 in
theorem t188_707 : zT 188 707 = some (.ireturn, 1, 0, 0, 0) := by rfl
set_option maxRecDepth 20000 in
theorem t188_708 : zT 188 708 = some (.aload_n 1, 1, 0, 0, 0) := by rfl
set_option maxRecDepth 20000 in
theorem t188_709 : zT 188 709 = some (.invokevirtual 100, 3, 108, 0, 744) := by rfl
set_option maxRecDepth 20000 in
theorem t188_712 : zT 188 712 = some (.aload_n 2, 1, 0, 0, 0) := by rfl
set_option maxRecDepth 20000 in
theorem t188_713 : zT 188 713 = some (.invokevirtual 103, 3, 173, 0, 1096) := by rfl
set_option maxRecDepth 20000 in
theorem t188_716 : zT 188 716 = some (.if_icmp .eq 77, 3, 0, 0, 0) := by rfl
set_option maxRecDepth 20000 in
theorem t188_719 : zT 188 719 = some (.iconst 0, 1, 0, 0, 0) := by rfl
set_option maxRecDepth 20000 in
theorem t188_720 : zT 188 720 = some (.ireturn, 1, 0, 0, 0) := by rfl
set_option maxRecDepth 20000 in
theorem t188_721 : zT 188 721 = some (.aload_n 1, 1, 0, 0, 0) := by rfl
set_option maxRecDepth 20000 in
theorem t188_722 : zT 188 722 = some (.invokevirtual 104, 3, 109, 0, 748) := by rfl
set_option maxRecDepth 20000 in
theorem t188_725 : zT 188 725 = some (.aload_n 2, 1, 0, 0, 0) := by rfl
set_option maxRecDepth 20000 in
theorem t188_726 : zT 188 726 = some (.invokevirtual 107, 3, 181, 0, 1100) := by rfl
set_option maxRecDepth 20000 in
theorem t188_729 : zT 188 729 = some (.if_icmp .eq 64, 3, 0, 0, 0) := by rfl
set_option maxRecDepth 20000 in
theorem t188_732 : zT 188 732 = some (.iconst 0, 1, 0, 0, 0) := by rfl
set_option maxRecDepth 20000 in
theorem t188_733 : zT 188 733 = some (.ireturn, 1, 0, 0, 0) := by rfl
set_option maxRecDepth 20000 in
theorem t188_734 : zT 188 734 = some (.aload_n 1, 1, 0, 0, 0) := by rfl
set_option maxRecDepth 20000 in
theorem t188_735 : zT 188 735 = some (.invokevirtual 108, 3, 110, 0, 752) := by rfl
set_option maxRecDepth 20000 in
theorem t188_738 : zT 188 738 = some (.aload_n 2, 1, 0, 0, 0) := by rfl
set_option maxRecDepth 20000 in
theorem t188_739 : zT 188 739 = some (.invokevirtual 111, 3, 182, 0, 1104) := by rfl
set_option maxRecDepth 20000 in
theorem t188_742 : zT 188 742 = some (.if_icmp .eq 51, 3, 0, 0, 0) := by rfl
set_option maxRecDepth 20000 in
theorem t188_745 : zT 188 745 = some (.iconst 0, 1, 0, 0, 0) := by rfl
set_option maxRecDepth 20000 in
theorem t188_746 : zT 188 746 = some (.ireturn, 1, 0, 0, 0) := by rfl
set_option maxRecDepth 20000 in
theorem t188_747 : zT 188 747 = some (.aload_n 1, 1, 0, 0, 0) := by rfl
set_option maxRecDepth 20000 in
theorem t188_748 : zT 188 748 = some (.aload_n 0, 1, 0, 0, 0) := by rfl
set_option maxRecDepth 20000 in
theorem t188_749 : zT 188 749 = some (.iload_n 3, 1, 0, 0, 0) := by rfl
set_option maxRecDepth 20000 in
theorem t188_750 : zT 188 750 = some (.iconst 1, 1, 0, 0, 0) := by rfl
set_option maxRecDepth 20000 in
theorem t188_751 : zT 188 751 = some (.iadd, 1, 0, 0, 0) := by rfl
set_option maxRecDepth 20000 in
theorem t188_752 : zT 188 752 = some (.iaload, 1, 0, 0, 0) := by rfl
set_option maxRecDepth 20000 in
theorem t188_753 : zT 188 753 = some (.invokevirtual 112, 3, 111, 0, 760) := by rfl
set_option maxRecDepth 20000 in
theorem t188_756 : zT 188 756 = some (.aload_n 2, 1, 0, 0, 0) := by rfl
set_option maxRecDepth 20000 in
theorem t188_757 : zT 188 757 = some (.aload_n 0, 1, 0, 0, 0) := by rfl
set_option maxRecDepth 20000 in
theorem t188_758 : zT 188 758 = some (.iload_n 3, 1, 0, 0, 0) := by rfl
set_option maxRecDepth 20000 in
theorem t188_759 : zT 188 759 = some (.iconst 1, 1, 0, 0, 0) := by rfl
set_option maxRecDepth 20000 in
theorem t188_760 : zT 188 760 = some (.iadd, 1, 0, 0, 0) := by rfl
set_option maxRecDepth 20000 in
theorem t188_761 : zT 188 761 = some (.iaload, 1, 0, 0, 0) := by rfl
set_option maxRecDepth 20000 in
theorem t188_762 : zT 188 762 = some (.invokevirtual 115, 3, 183, 0, 1108) := by rfl
set_option maxRecDepth 20000 in
theorem t188_765 : zT 188 765 = some (.if_icmp .eq 28, 3, 0, 0, 0) := by rfl
set_option maxRecDepth 20000 in
theorem t188_768 : zT 188 768 = some (.iconst 0, 1, 0, 0, 0) := by rfl
set_option maxRecDepth 20000 in
theorem t188_769 : zT 188 769 = some (.ireturn, 1, 0, 0, 0) := by rfl
set_option maxRecDepth 20000 in
theorem t188_770 : zT 188 770 = some (.aload_n 1, 1, 0, 0, 0) := by rfl
set_option maxRecDepth 20000 in
theorem t188_771 : zT 188 771 = some (.aload_n 0, 1, 0, 0, 0) := by rfl
set_option maxRecDepth 20000 in
theorem t188_772 : zT 188 772 = some (.iload_n 3, 1, 0, 0, 0) := by rfl
set_option maxRecDepth 20000 in
theorem t188_773 : zT 188 773 = some (.iconst 1, 1, 0, 0, 0) := by rfl
set_option maxRecDepth 20000 in
theorem t188_774 : zT 188 774 = some (.iadd, 1, 0, 0, 0) := by rfl
set_option maxRecDepth 20000 in
theorem t188_775 : zT 188 775 = some (.iaload, 1, 0, 0, 0) := by rfl
set_option maxRecDepth 20000 in
theorem t188_776 : zT 188 776 = some (.invokevirtual 116, 3, 112, 0, 772) := by rfl
set_option maxRecDepth 20000 in
theorem t188_779 : zT 188 779 = some (.aload_n 2, 1, 0, 0, 0) := by rfl
set_option maxRecDepth 20000 in
theorem t188_780 : zT 188 780 = some (.aload_n 0, 1, 0, 0, 0) := by rfl
set_option maxRecDepth 20000 in
theorem t188_781 : zT 188 781 = some (.iload_n 3, 1, 0, 0, 0) := by rfl
set_option maxRecDepth 20000 in
theorem t188_782 : zT 188 782 = some (.iconst 1, 1, 0, 0, 0) := by rfl
set_option maxRecDepth 20000 in
theorem t188_783 : zT 188 783 = some (.iadd, 1, 0, 0, 0) := by rfl
set_option maxRecDepth 20000 in
theorem t188_784 : zT 188 784 = some (.iaload, 1, 0, 0, 0) := by rfl
set_option maxRecDepth 20000 in
theorem t188_785 : zT 188 785 = some (.invokevirtual 119, 3, 184, 0, 1112) := by rfl
set_option maxRecDepth 20000 in
theorem t188_788 : zT 188 788 = some (.if_icmp .eq 5, 3, 0, 0, 0) := by rfl
set_option maxRecDepth 20000 in
theorem t188_791 : zT 188 791 = some (.iconst 0, 1, 0, 0, 0) := by rfl
set_option maxRecDepth 20000 in
theorem t188_792 : zT 188 792 = some (.ireturn, 1, 0, 0, 0) := by rfl
set_option maxRecDepth 20000 in
theorem t188_793 : zT 188 793 = some (.iinc 3 4, 3, 0, 0, 0) := by rfl
set_option maxRecDepth 20000 in
theorem t188_796 : zT 188 796 = some (.goto (-778), 3, 0, 0, 0) := by rfl
set_option maxRecDepth 20000 in
theorem t188_799 : zT 188 799 = some (.iconst 1, 1, 0, 0, 0) := by rfl
set_option maxRecDepth 20000 in
theorem t188_800 : zT 188 800 = some (.ireturn, 1, 0, 0, 0) := by rfl
/-! L_law FiveInksLaw.law -/
theorem k188_18 {X : Nat × (Nat → Int32)} {I : Nat → Nat → Int32} {v3 : Int32}  : zr X 188 18 [.ref 0, .ref 1, .ref 160, .int v3] [] (zk I) = if ((Int32.ofNat X.1) - 4) < v3 then zr X 188 799 [.ref 0, .ref 1, .ref 160, .int v3] [] (zk I) else zr X 188 26 [.ref 0, .ref 1, .ref 160, .int v3] [] (zk I) :=
  (zr_iload_n t188_18 rfl).trans <|
    (zr_aload_n t188_19 rfl).trans <|
    (zr_slen t188_20).trans <|
    (zr_iconst t188_21 zci_4).trans <|
    (zr_isub t188_22).trans <|
    zr_ic_gt (tgt := 799) t188_23 rfl
theorem k188_26_c0 {X : Nat × (Nat → Int32)} {I : Nat → Nat → Int32} {v3 : Int32} (q1 : zin v3 X.1 = true) (qc : (X.2 (zx v3)) &&& 31 = 0) : zr X 188 26 [.ref 0, .ref 1, .ref 160, .int v3] [] (zk I) = zr X 188 148 [.ref 0, .ref 1, .ref 160, .int v3] [] (zk I) :=
  (zr_aload_n t188_26 rfl).trans <|
    (zr_iload_n t188_27 rfl).trans <|
    (zr_sld (j := zx v3) t188_28 rfl q1).trans <|
    (zr_bipush t188_29 zcb_31).trans <|
    (zr_iand t188_31).trans <|
    zr_tabI (off := 116) (tgt := 148) t188_32 (by rw [qc]; decide) (by rw [qc]; decide) rfl
theorem k188_26_c1 {X : Nat × (Nat → Int32)} {I : Nat → Nat → Int32} {v3 : Int32} (q1 : zin v3 X.1 = true) (qc : (X.2 (zx v3)) &&& 31 = 1) : zr X 188 26 [.ref 0, .ref 1, .ref 160, .int v3] [] (zk I) = zr X 188 161 [.ref 0, .ref 1, .ref 160, .int v3] [] (zk I) :=
  (zr_aload_n t188_26 rfl).trans <|
    (zr_iload_n t188_27 rfl).trans <|
    (zr_sld (j := zx v3) t188_28 rfl q1).trans <|
    (zr_bipush t188_29 zcb_31).trans <|
    (zr_iand t188_31).trans <|
    zr_tabI (off := 129) (tgt := 161) t188_32 (by rw [qc]; decide) (by rw [qc]; decide) rfl
theorem k188_26_c2 {X : Nat × (Nat → Int32)} {I : Nat → Nat → Int32} {v3 : Int32} (q1 : zin v3 X.1 = true) (qc : (X.2 (zx v3)) &&& 31 = 2) : zr X 188 26 [.ref 0, .ref 1, .ref 160, .int v3] [] (zk I) = zr X 188 194 [.ref 0, .ref 1, .ref 160, .int v3] [] (zk I) :=
  (zr_aload_n t188_26 rfl).trans <|
    (zr_iload_n t188_27 rfl).trans <|
    (zr_sld (j := zx v3) t188_28 rfl q1).trans <|
    (zr_bipush t188_29 zcb_31).trans <|
    (zr_iand t188_31).trans <|
    zr_tabI (off := 162) (tgt := 194) t188_32 (by rw [qc]; decide) (by rw [qc]; decide) rfl
theorem k188_26_c3 {X : Nat × (Nat → Int32)} {I : Nat → Nat → Int32} {v3 : Int32} (q1 : zin v3 X.1 = true) (qc : (X.2 (zx v3)) &&& 31 = 3) : zr X 188 26 [.ref 0, .ref 1, .ref 160, .int v3] [] (zk I) = zr X 188 207 [.ref 0, .ref 1, .ref 160, .int v3] [] (zk I) :=
  (zr_aload_n t188_26 rfl).trans <|
    (zr_iload_n t188_27 rfl).trans <|
    (zr_sld (j := zx v3) t188_28 rfl q1).trans <|
    (zr_bipush t188_29 zcb_31).trans <|
    (zr_iand t188_31).trans <|
    zr_tabI (off := 175) (tgt := 207) t188_32 (by rw [qc]; decide) (by rw [qc]; decide) rfl
theorem k188_26_c4 {X : Nat × (Nat → Int32)} {I : Nat → Nat → Int32} {v3 : Int32} (q1 : zin v3 X.1 = true) (qc : (X.2 (zx v3)) &&& 31 = 4) : zr X 188 26 [.ref 0, .ref 1, .ref 160, .int v3] [] (zk I) = zr X 188 250 [.ref 0, .ref 1, .ref 160, .int v3] [] (zk I) :=
  (zr_aload_n t188_26 rfl).trans <|
    (zr_iload_n t188_27 rfl).trans <|
    (zr_sld (j := zx v3) t188_28 rfl q1).trans <|
    (zr_bipush t188_29 zcb_31).trans <|
    (zr_iand t188_31).trans <|
    zr_tabI (off := 218) (tgt := 250) t188_32 (by rw [qc]; decide) (by rw [qc]; decide) rfl
theorem k188_26_c5 {X : Nat × (Nat → Int32)} {I : Nat → Nat → Int32} {v3 : Int32} (q1 : zin v3 X.1 = true) (qc : (X.2 (zx v3)) &&& 31 = 5) : zr X 188 26 [.ref 0, .ref 1, .ref 160, .int v3] [] (zk I) = zr X 188 273 [.ref 0, .ref 1, .ref 160, .int v3] [] (zk I) :=
  (zr_aload_n t188_26 rfl).trans <|
    (zr_iload_n t188_27 rfl).trans <|
    (zr_sld (j := zx v3) t188_28 rfl q1).trans <|
    (zr_bipush t188_29 zcb_31).trans <|
    (zr_iand t188_31).trans <|
    zr_tabI (off := 241) (tgt := 273) t188_32 (by rw [qc]; decide) (by rw [qc]; decide) rfl
theorem k188_26_c6 {X : Nat × (Nat → Int32)} {I : Nat → Nat → Int32} {v3 : Int32} (q1 : zin v3 X.1 = true) (qc : (X.2 (zx v3)) &&& 31 = 6) : zr X 188 26 [.ref 0, .ref 1, .ref 160, .int v3] [] (zk I) = zr X 188 296 [.ref 0, .ref 1, .ref 160, .int v3] [] (zk I) :=
  (zr_aload_n t188_26 rfl).trans <|
    (zr_iload_n t188_27 rfl).trans <|
    (zr_sld (j := zx v3) t188_28 rfl q1).trans <|
    (zr_bipush t188_29 zcb_31).trans <|
    (zr_iand t188_31).trans <|
    zr_tabI (off := 264) (tgt := 296) t188_32 (by rw [qc]; decide) (by rw [qc]; decide) rfl
theorem k188_26_c7 {X : Nat × (Nat → Int32)} {I : Nat → Nat → Int32} {v3 : Int32} (q1 : zin v3 X.1 = true) (qc : (X.2 (zx v3)) &&& 31 = 7) : zr X 188 26 [.ref 0, .ref 1, .ref 160, .int v3] [] (zk I) = zr X 188 319 [.ref 0, .ref 1, .ref 160, .int v3] [] (zk I) :=
  (zr_aload_n t188_26 rfl).trans <|
    (zr_iload_n t188_27 rfl).trans <|
    (zr_sld (j := zx v3) t188_28 rfl q1).trans <|
    (zr_bipush t188_29 zcb_31).trans <|
    (zr_iand t188_31).trans <|
    zr_tabI (off := 287) (tgt := 319) t188_32 (by rw [qc]; decide) (by rw [qc]; decide) rfl
theorem k188_26_c8 {X : Nat × (Nat → Int32)} {I : Nat → Nat → Int32} {v3 : Int32} (q1 : zin v3 X.1 = true) (qc : (X.2 (zx v3)) &&& 31 = 8) : zr X 188 26 [.ref 0, .ref 1, .ref 160, .int v3] [] (zk I) = zr X 188 332 [.ref 0, .ref 1, .ref 160, .int v3] [] (zk I) :=
  (zr_aload_n t188_26 rfl).trans <|
    (zr_iload_n t188_27 rfl).trans <|
    (zr_sld (j := zx v3) t188_28 rfl q1).trans <|
    (zr_bipush t188_29 zcb_31).trans <|
    (zr_iand t188_31).trans <|
    zr_tabI (off := 300) (tgt := 332) t188_32 (by rw [qc]; decide) (by rw [qc]; decide) rfl
theorem k188_26_c9 {X : Nat × (Nat → Int32)} {I : Nat → Nat → Int32} {v3 : Int32} (q1 : zin v3 X.1 = true) (qc : (X.2 (zx v3)) &&& 31 = 9) : zr X 188 26 [.ref 0, .ref 1, .ref 160, .int v3] [] (zk I) = zr X 188 345 [.ref 0, .ref 1, .ref 160, .int v3] [] (zk I) :=
  (zr_aload_n t188_26 rfl).trans <|
    (zr_iload_n t188_27 rfl).trans <|
    (zr_sld (j := zx v3) t188_28 rfl q1).trans <|
    (zr_bipush t188_29 zcb_31).trans <|
    (zr_iand t188_31).trans <|
    zr_tabI (off := 313) (tgt := 345) t188_32 (by rw [qc]; decide) (by rw [qc]; decide) rfl
theorem k188_26_c10 {X : Nat × (Nat → Int32)} {I : Nat → Nat → Int32} {v3 : Int32} (q1 : zin v3 X.1 = true) (qc : (X.2 (zx v3)) &&& 31 = 10) : zr X 188 26 [.ref 0, .ref 1, .ref 160, .int v3] [] (zk I) = zr X 188 378 [.ref 0, .ref 1, .ref 160, .int v3] [] (zk I) :=
  (zr_aload_n t188_26 rfl).trans <|
    (zr_iload_n t188_27 rfl).trans <|
    (zr_sld (j := zx v3) t188_28 rfl q1).trans <|
    (zr_bipush t188_29 zcb_31).trans <|
    (zr_iand t188_31).trans <|
    zr_tabI (off := 346) (tgt := 378) t188_32 (by rw [qc]; decide) (by rw [qc]; decide) rfl
theorem k188_26_c11 {X : Nat × (Nat → Int32)} {I : Nat → Nat → Int32} {v3 : Int32} (q1 : zin v3 X.1 = true) (qc : (X.2 (zx v3)) &&& 31 = 11) : zr X 188 26 [.ref 0, .ref 1, .ref 160, .int v3] [] (zk I) = zr X 188 411 [.ref 0, .ref 1, .ref 160, .int v3] [] (zk I) :=
  (zr_aload_n t188_26 rfl).trans <|
    (zr_iload_n t188_27 rfl).trans <|
    (zr_sld (j := zx v3) t188_28 rfl q1).trans <|
    (zr_bipush t188_29 zcb_31).trans <|
    (zr_iand t188_31).trans <|
    zr_tabI (off := 379) (tgt := 411) t188_32 (by rw [qc]; decide) (by rw [qc]; decide) rfl
theorem k188_26_c12 {X : Nat × (Nat → Int32)} {I : Nat → Nat → Int32} {v3 : Int32} (q1 : zin v3 X.1 = true) (qc : (X.2 (zx v3)) &&& 31 = 12) : zr X 188 26 [.ref 0, .ref 1, .ref 160, .int v3] [] (zk I) = zr X 188 444 [.ref 0, .ref 1, .ref 160, .int v3] [] (zk I) :=
  (zr_aload_n t188_26 rfl).trans <|
    (zr_iload_n t188_27 rfl).trans <|
    (zr_sld (j := zx v3) t188_28 rfl q1).trans <|
    (zr_bipush t188_29 zcb_31).trans <|
    (zr_iand t188_31).trans <|
    zr_tabI (off := 412) (tgt := 444) t188_32 (by rw [qc]; decide) (by rw [qc]; decide) rfl
theorem k188_26_c13 {X : Nat × (Nat → Int32)} {I : Nat → Nat → Int32} {v3 : Int32} (q1 : zin v3 X.1 = true) (qc : (X.2 (zx v3)) &&& 31 = 13) : zr X 188 26 [.ref 0, .ref 1, .ref 160, .int v3] [] (zk I) = zr X 188 477 [.ref 0, .ref 1, .ref 160, .int v3] [] (zk I) :=
  (zr_aload_n t188_26 rfl).trans <|
    (zr_iload_n t188_27 rfl).trans <|
    (zr_sld (j := zx v3) t188_28 rfl q1).trans <|
    (zr_bipush t188_29 zcb_31).trans <|
    (zr_iand t188_31).trans <|
    zr_tabI (off := 445) (tgt := 477) t188_32 (by rw [qc]; decide) (by rw [qc]; decide) rfl
theorem k188_26_c14 {X : Nat × (Nat → Int32)} {I : Nat → Nat → Int32} {v3 : Int32} (q1 : zin v3 X.1 = true) (qc : (X.2 (zx v3)) &&& 31 = 14) : zr X 188 26 [.ref 0, .ref 1, .ref 160, .int v3] [] (zk I) = zr X 188 510 [.ref 0, .ref 1, .ref 160, .int v3] [] (zk I) :=
  (zr_aload_n t188_26 rfl).trans <|
    (zr_iload_n t188_27 rfl).trans <|
    (zr_sld (j := zx v3) t188_28 rfl q1).trans <|
    (zr_bipush t188_29 zcb_31).trans <|
    (zr_iand t188_31).trans <|
    zr_tabI (off := 478) (tgt := 510) t188_32 (by rw [qc]; decide) (by rw [qc]; decide) rfl
theorem k188_26_c15 {X : Nat × (Nat → Int32)} {I : Nat → Nat → Int32} {v3 : Int32} (q1 : zin v3 X.1 = true) (qc : (X.2 (zx v3)) &&& 31 = 15) : zr X 188 26 [.ref 0, .ref 1, .ref 160, .int v3] [] (zk I) = zr X 188 533 [.ref 0, .ref 1, .ref 160, .int v3] [] (zk I) :=
  (zr_aload_n t188_26 rfl).trans <|
    (zr_iload_n t188_27 rfl).trans <|
    (zr_sld (j := zx v3) t188_28 rfl q1).trans <|
    (zr_bipush t188_29 zcb_31).trans <|
    (zr_iand t188_31).trans <|
    zr_tabI (off := 501) (tgt := 533) t188_32 (by rw [qc]; decide) (by rw [qc]; decide) rfl
theorem k188_26_c16 {X : Nat × (Nat → Int32)} {I : Nat → Nat → Int32} {v3 : Int32} (q1 : zin v3 X.1 = true) (qc : (X.2 (zx v3)) &&& 31 = 16) : zr X 188 26 [.ref 0, .ref 1, .ref 160, .int v3] [] (zk I) = zr X 188 566 [.ref 0, .ref 1, .ref 160, .int v3] [] (zk I) :=
  (zr_aload_n t188_26 rfl).trans <|
    (zr_iload_n t188_27 rfl).trans <|
    (zr_sld (j := zx v3) t188_28 rfl q1).trans <|
    (zr_bipush t188_29 zcb_31).trans <|
    (zr_iand t188_31).trans <|
    zr_tabI (off := 534) (tgt := 566) t188_32 (by rw [qc]; decide) (by rw [qc]; decide) rfl
theorem k188_26_c17 {X : Nat × (Nat → Int32)} {I : Nat → Nat → Int32} {v3 : Int32} (q1 : zin v3 X.1 = true) (qc : (X.2 (zx v3)) &&& 31 = 17) : zr X 188 26 [.ref 0, .ref 1, .ref 160, .int v3] [] (zk I) = zr X 188 599 [.ref 0, .ref 1, .ref 160, .int v3] [] (zk I) :=
  (zr_aload_n t188_26 rfl).trans <|
    (zr_iload_n t188_27 rfl).trans <|
    (zr_sld (j := zx v3) t188_28 rfl q1).trans <|
    (zr_bipush t188_29 zcb_31).trans <|
    (zr_iand t188_31).trans <|
    zr_tabI (off := 567) (tgt := 599) t188_32 (by rw [qc]; decide) (by rw [qc]; decide) rfl
theorem k188_26_c18 {X : Nat × (Nat → Int32)} {I : Nat → Nat → Int32} {v3 : Int32} (q1 : zin v3 X.1 = true) (qc : (X.2 (zx v3)) &&& 31 = 18) : zr X 188 26 [.ref 0, .ref 1, .ref 160, .int v3] [] (zk I) = zr X 188 632 [.ref 0, .ref 1, .ref 160, .int v3] [] (zk I) :=
  (zr_aload_n t188_26 rfl).trans <|
    (zr_iload_n t188_27 rfl).trans <|
    (zr_sld (j := zx v3) t188_28 rfl q1).trans <|
    (zr_bipush t188_29 zcb_31).trans <|
    (zr_iand t188_31).trans <|
    zr_tabI (off := 600) (tgt := 632) t188_32 (by rw [qc]; decide) (by rw [qc]; decide) rfl
theorem k188_26_c19 {X : Nat × (Nat → Int32)} {I : Nat → Nat → Int32} {v3 : Int32} (q1 : zin v3 X.1 = true) (qc : (X.2 (zx v3)) &&& 31 = 19) : zr X 188 26 [.ref 0, .ref 1, .ref 160, .int v3] [] (zk I) = zr X 188 655 [.ref 0, .ref 1, .ref 160, .int v3] [] (zk I) :=
  (zr_aload_n t188_26 rfl).trans <|
    (zr_iload_n t188_27 rfl).trans <|
    (zr_sld (j := zx v3) t188_28 rfl q1).trans <|
    (zr_bipush t188_29 zcb_31).trans <|
    (zr_iand t188_31).trans <|
    zr_tabI (off := 623) (tgt := 655) t188_32 (by rw [qc]; decide) (by rw [qc]; decide) rfl
theorem k188_26_c20 {X : Nat × (Nat → Int32)} {I : Nat → Nat → Int32} {v3 : Int32} (q1 : zin v3 X.1 = true) (qc : (X.2 (zx v3)) &&& 31 = 20) : zr X 188 26 [.ref 0, .ref 1, .ref 160, .int v3] [] (zk I) = zr X 188 708 [.ref 0, .ref 1, .ref 160, .int v3] [] (zk I) :=
  (zr_aload_n t188_26 rfl).trans <|
    (zr_iload_n t188_27 rfl).trans <|
    (zr_sld (j := zx v3) t188_28 rfl q1).trans <|
    (zr_bipush t188_29 zcb_31).trans <|
    (zr_iand t188_31).trans <|
    zr_tabI (off := 676) (tgt := 708) t188_32 (by rw [qc]; decide) (by rw [qc]; decide) rfl
theorem k188_26_c21 {X : Nat × (Nat → Int32)} {I : Nat → Nat → Int32} {v3 : Int32} (q1 : zin v3 X.1 = true) (qc : (X.2 (zx v3)) &&& 31 = 21) : zr X 188 26 [.ref 0, .ref 1, .ref 160, .int v3] [] (zk I) = zr X 188 721 [.ref 0, .ref 1, .ref 160, .int v3] [] (zk I) :=
  (zr_aload_n t188_26 rfl).trans <|
    (zr_iload_n t188_27 rfl).trans <|
    (zr_sld (j := zx v3) t188_28 rfl q1).trans <|
    (zr_bipush t188_29 zcb_31).trans <|
    (zr_iand t188_31).trans <|
    zr_tabI (off := 689) (tgt := 721) t188_32 (by rw [qc]; decide) (by rw [qc]; decide) rfl
theorem k188_26_c22 {X : Nat × (Nat → Int32)} {I : Nat → Nat → Int32} {v3 : Int32} (q1 : zin v3 X.1 = true) (qc : (X.2 (zx v3)) &&& 31 = 22) : zr X 188 26 [.ref 0, .ref 1, .ref 160, .int v3] [] (zk I) = zr X 188 734 [.ref 0, .ref 1, .ref 160, .int v3] [] (zk I) :=
  (zr_aload_n t188_26 rfl).trans <|
    (zr_iload_n t188_27 rfl).trans <|
    (zr_sld (j := zx v3) t188_28 rfl q1).trans <|
    (zr_bipush t188_29 zcb_31).trans <|
    (zr_iand t188_31).trans <|
    zr_tabI (off := 702) (tgt := 734) t188_32 (by rw [qc]; decide) (by rw [qc]; decide) rfl
theorem k188_26_c23 {X : Nat × (Nat → Int32)} {I : Nat → Nat → Int32} {v3 : Int32} (q1 : zin v3 X.1 = true) (qc : (X.2 (zx v3)) &&& 31 = 23) : zr X 188 26 [.ref 0, .ref 1, .ref 160, .int v3] [] (zk I) = zr X 188 747 [.ref 0, .ref 1, .ref 160, .int v3] [] (zk I) :=
  (zr_aload_n t188_26 rfl).trans <|
    (zr_iload_n t188_27 rfl).trans <|
    (zr_sld (j := zx v3) t188_28 rfl q1).trans <|
    (zr_bipush t188_29 zcb_31).trans <|
    (zr_iand t188_31).trans <|
    zr_tabI (off := 715) (tgt := 747) t188_32 (by rw [qc]; decide) (by rw [qc]; decide) rfl
theorem k188_26_c24 {X : Nat × (Nat → Int32)} {I : Nat → Nat → Int32} {v3 : Int32} (q1 : zin v3 X.1 = true) (qc : (X.2 (zx v3)) &&& 31 = 24) : zr X 188 26 [.ref 0, .ref 1, .ref 160, .int v3] [] (zk I) = zr X 188 770 [.ref 0, .ref 1, .ref 160, .int v3] [] (zk I) :=
  (zr_aload_n t188_26 rfl).trans <|
    (zr_iload_n t188_27 rfl).trans <|
    (zr_sld (j := zx v3) t188_28 rfl q1).trans <|
    (zr_bipush t188_29 zcb_31).trans <|
    (zr_iand t188_31).trans <|
    zr_tabI (off := 738) (tgt := 770) t188_32 (by rw [qc]; decide) (by rw [qc]; decide) rfl
theorem k188_26_d {X : Nat × (Nat → Int32)} {I : Nat → Nat → Int32} {v3 : Int32} (q1 : zin v3 X.1 = true) (qd : ((X.2 (zx v3)) &&& 31).toInt < 0 ∨ 24 < ((X.2 (zx v3)) &&& 31).toInt) : zr X 188 26 [.ref 0, .ref 1, .ref 160, .int v3] [] (zk I) = zr X 188 793 [.ref 0, .ref 1, .ref 160, .int v3] [] (zk I) :=
  (zr_aload_n t188_26 rfl).trans <|
    (zr_iload_n t188_27 rfl).trans <|
    (zr_sld (j := zx v3) t188_28 rfl q1).trans <|
    (zr_bipush t188_29 zcb_31).trans <|
    (zr_iand t188_31).trans <|
    zr_tabO (tgt := 793) t188_32 qd rfl
theorem k188_148 {X : Nat × (Nat → Int32)} {I : Nat → Nat → Int32} {v3 : Int32}  : zr X 188 148 [.ref 0, .ref 1, .ref 160, .int v3] [] (zk I) = zcb (zr X 88 0 [.ref 1] [] (zk I)) (fun v m1 => zr X 188 152 [.ref 0, .ref 1, .ref 160, .int v3] (v.toList ++ []) m1) :=
  (zr_aload_n t188_148 rfl).trans <|
    zr_callv t188_149 rfl rfl rfl rfl
theorem k188_152 {X : Nat × (Nat → Int32)} {I : Nat → Nat → Int32} {v3 : Int32} {s0 : Int32}  : zr X 188 152 [.ref 0, .ref 1, .ref 160, .int v3] [.int s0] (zk I) = zcb (zr X 136 0 [.ref 160, .null] [] (zk I)) (fun v m1 => zr X 188 156 [.ref 0, .ref 1, .ref 160, .int v3] (v.toList ++ [.int s0]) m1) :=
  (zr_aload_n t188_152 rfl).trans <|
    zr_callv t188_153 rfl rfl rfl rfl
theorem k188_156 {X : Nat × (Nat → Int32)} {I : Nat → Nat → Int32} {v3 : Int32} {s0 : Int32} {s1 : Int32}  : zr X 188 156 [.ref 0, .ref 1, .ref 160, .int v3] [.int s1, .int s0] (zk I) = if s0 = s1 then zr X 188 793 [.ref 0, .ref 1, .ref 160, .int v3] [] (zk I) else zr X 188 159 [.ref 0, .ref 1, .ref 160, .int v3] [] (zk I) :=
  zr_ic_eq (tgt := 793) t188_156 rfl
theorem k188_159 {X : Nat × (Nat → Int32)} {I : Nat → Nat → Int32} {v3 : Int32}  : zr X 188 159 [.ref 0, .ref 1, .ref 160, .int v3] [] (zk I) = some (some (.int 0), zk I) :=
  (zr_iconst t188_159 zci_0).trans <|
    zr_zret t188_160 rfl (Or.inl rfl)
theorem k188_161 {X : Nat × (Nat → Int32)} {I : Nat → Nat → Int32} {v3 : Int32} (q1 : zin (v3 + 1) X.1 = true) (q2 : zin (v3 + 2) X.1 = true) : zr X 188 161 [.ref 0, .ref 1, .ref 160, .int v3] [] (zk I) = zcb (zr X 89 0 [.ref 1, .int (X.2 (zx (v3 + 1))), .int (X.2 (zx (v3 + 2))), .null] [] (zk I)) (fun v m1 => zr X 188 175 [.ref 0, .ref 1, .ref 160, .int v3] (v.toList ++ []) m1) :=
  (zr_aload_n t188_161 rfl).trans <|
    (zr_aload_n t188_162 rfl).trans <|
    (zr_iload_n t188_163 rfl).trans <|
    (zr_iconst t188_164 zci_1).trans <|
    (zr_iadd t188_165).trans <|
    (zr_sld (j := zx (v3 + 1)) t188_166 rfl q1).trans <|
    (zr_aload_n t188_167 rfl).trans <|
    (zr_iload_n t188_168 rfl).trans <|
    (zr_iconst t188_169 zci_2).trans <|
    (zr_iadd t188_170).trans <|
    (zr_sld (j := zx (v3 + 2)) t188_171 rfl q2).trans <|
    zr_callv t188_172 rfl rfl rfl rfl
theorem k188_175 {X : Nat × (Nat → Int32)} {I : Nat → Nat → Int32} {v3 : Int32} {s0 : Int32} (q1 : zin (v3 + 1) X.1 = true) (q2 : zin (v3 + 2) X.1 = true) : zr X 188 175 [.ref 0, .ref 1, .ref 160, .int v3] [.int s0] (zk I) = zcb (zr X 137 0 [.ref 160, .int (X.2 (zx (v3 + 1))), .int (X.2 (zx (v3 + 2))), .null] [] (zk I)) (fun v m1 => zr X 188 189 [.ref 0, .ref 1, .ref 160, .int v3] (v.toList ++ [.int s0]) m1) :=
  (zr_aload_n t188_175 rfl).trans <|
    (zr_aload_n t188_176 rfl).trans <|
    (zr_iload_n t188_177 rfl).trans <|
    (zr_iconst t188_178 zci_1).trans <|
    (zr_iadd t188_179).trans <|
    (zr_sld (j := zx (v3 + 1)) t188_180 rfl q1).trans <|
    (zr_aload_n t188_181 rfl).trans <|
    (zr_iload_n t188_182 rfl).trans <|
    (zr_iconst t188_183 zci_2).trans <|
    (zr_iadd t188_184).trans <|
    (zr_sld (j := zx (v3 + 2)) t188_185 rfl q2).trans <|
    zr_callv t188_186 rfl rfl rfl rfl
theorem k188_189 {X : Nat × (Nat → Int32)} {I : Nat → Nat → Int32} {v3 : Int32} {s0 : Int32} {s1 : Int32}  : zr X 188 189 [.ref 0, .ref 1, .ref 160, .int v3] [.int s1, .int s0] (zk I) = if s0 = s1 then zr X 188 793 [.ref 0, .ref 1, .ref 160, .int v3] [] (zk I) else zr X 188 192 [.ref 0, .ref 1, .ref 160, .int v3] [] (zk I) :=
  zr_ic_eq (tgt := 793) t188_189 rfl
theorem k188_192 {X : Nat × (Nat → Int32)} {I : Nat → Nat → Int32} {v3 : Int32}  : zr X 188 192 [.ref 0, .ref 1, .ref 160, .int v3] [] (zk I) = some (some (.int 0), zk I) :=
  (zr_iconst t188_192 zci_0).trans <|
    zr_zret t188_193 rfl (Or.inl rfl)
theorem k188_194 {X : Nat × (Nat → Int32)} {I : Nat → Nat → Int32} {v3 : Int32}  : zr X 188 194 [.ref 0, .ref 1, .ref 160, .int v3] [] (zk I) = zcb (zr X 90 0 [.ref 1, .null] [] (zk I)) (fun v m1 => zr X 188 198 [.ref 0, .ref 1, .ref 160, .int v3] (v.toList ++ []) m1) :=
  (zr_aload_n t188_194 rfl).trans <|
    zr_callv t188_195 rfl rfl rfl rfl
theorem k188_198 {X : Nat × (Nat → Int32)} {I : Nat → Nat → Int32} {v3 : Int32} {s0 : Int32}  : zr X 188 198 [.ref 0, .ref 1, .ref 160, .int v3] [.int s0] (zk I) = zcb (zr X 142 0 [.ref 160, .null] [] (zk I)) (fun v m1 => zr X 188 202 [.ref 0, .ref 1, .ref 160, .int v3] (v.toList ++ [.int s0]) m1) :=
  (zr_aload_n t188_198 rfl).trans <|
    zr_callv t188_199 rfl rfl rfl rfl
theorem k188_202 {X : Nat × (Nat → Int32)} {I : Nat → Nat → Int32} {v3 : Int32} {s0 : Int32} {s1 : Int32}  : zr X 188 202 [.ref 0, .ref 1, .ref 160, .int v3] [.int s1, .int s0] (zk I) = if s0 = s1 then zr X 188 793 [.ref 0, .ref 1, .ref 160, .int v3] [] (zk I) else zr X 188 205 [.ref 0, .ref 1, .ref 160, .int v3] [] (zk I) :=
  zr_ic_eq (tgt := 793) t188_202 rfl
theorem k188_205 {X : Nat × (Nat → Int32)} {I : Nat → Nat → Int32} {v3 : Int32}  : zr X 188 205 [.ref 0, .ref 1, .ref 160, .int v3] [] (zk I) = some (some (.int 0), zk I) :=
  (zr_iconst t188_205 zci_0).trans <|
    zr_zret t188_206 rfl (Or.inl rfl)
theorem k188_207 {X : Nat × (Nat → Int32)} {I : Nat → Nat → Int32} {v3 : Int32} (q1 : zin (v3 + 1) X.1 = true) (q2 : zin (v3 + 2) X.1 = true) (q3 : zin (v3 + 3) X.1 = true) : zr X 188 207 [.ref 0, .ref 1, .ref 160, .int v3] [] (zk I) = zcb (zr X 91 0 [.ref 1, .int (X.2 (zx (v3 + 1))), .int (X.2 (zx (v3 + 2))), .int (X.2 (zx (v3 + 3))), .null] [] (zk I)) (fun v m1 => zr X 188 226 [.ref 0, .ref 1, .ref 160, .int v3] (v.toList ++ []) m1) :=
  (zr_aload_n t188_207 rfl).trans <|
    (zr_aload_n t188_208 rfl).trans <|
    (zr_iload_n t188_209 rfl).trans <|
    (zr_iconst t188_210 zci_1).trans <|
    (zr_iadd t188_211).trans <|
    (zr_sld (j := zx (v3 + 1)) t188_212 rfl q1).trans <|
    (zr_aload_n t188_213 rfl).trans <|
    (zr_iload_n t188_214 rfl).trans <|
    (zr_iconst t188_215 zci_2).trans <|
    (zr_iadd t188_216).trans <|
    (zr_sld (j := zx (v3 + 2)) t188_217 rfl q2).trans <|
    (zr_aload_n t188_218 rfl).trans <|
    (zr_iload_n t188_219 rfl).trans <|
    (zr_iconst t188_220 zci_3).trans <|
    (zr_iadd t188_221).trans <|
    (zr_sld (j := zx (v3 + 3)) t188_222 rfl q3).trans <|
    zr_callv t188_223 rfl rfl rfl rfl
theorem k188_226 {X : Nat × (Nat → Int32)} {I : Nat → Nat → Int32} {v3 : Int32} {s0 : Int32} (q1 : zin (v3 + 1) X.1 = true) (q2 : zin (v3 + 2) X.1 = true) (q3 : zin (v3 + 3) X.1 = true) : zr X 188 226 [.ref 0, .ref 1, .ref 160, .int v3] [.int s0] (zk I) = zcb (zr X 143 0 [.ref 160, .int (X.2 (zx (v3 + 1))), .int (X.2 (zx (v3 + 2))), .int (X.2 (zx (v3 + 3))), .null] [] (zk I)) (fun v m1 => zr X 188 245 [.ref 0, .ref 1, .ref 160, .int v3] (v.toList ++ [.int s0]) m1) :=
  (zr_aload_n t188_226 rfl).trans <|
    (zr_aload_n t188_227 rfl).trans <|
    (zr_iload_n t188_228 rfl).trans <|
    (zr_iconst t188_229 zci_1).trans <|
    (zr_iadd t188_230).trans <|
    (zr_sld (j := zx (v3 + 1)) t188_231 rfl q1).trans <|
    (zr_aload_n t188_232 rfl).trans <|
    (zr_iload_n t188_233 rfl).trans <|
    (zr_iconst t188_234 zci_2).trans <|
    (zr_iadd t188_235).trans <|
    (zr_sld (j := zx (v3 + 2)) t188_236 rfl q2).trans <|
    (zr_aload_n t188_237 rfl).trans <|
    (zr_iload_n t188_238 rfl).trans <|
    (zr_iconst t188_239 zci_3).trans <|
    (zr_iadd t188_240).trans <|
    (zr_sld (j := zx (v3 + 3)) t188_241 rfl q3).trans <|
    zr_callv t188_242 rfl rfl rfl rfl
theorem k188_245 {X : Nat × (Nat → Int32)} {I : Nat → Nat → Int32} {v3 : Int32} {s0 : Int32} {s1 : Int32}  : zr X 188 245 [.ref 0, .ref 1, .ref 160, .int v3] [.int s1, .int s0] (zk I) = if s0 = s1 then zr X 188 793 [.ref 0, .ref 1, .ref 160, .int v3] [] (zk I) else zr X 188 248 [.ref 0, .ref 1, .ref 160, .int v3] [] (zk I) :=
  zr_ic_eq (tgt := 793) t188_245 rfl
theorem k188_248 {X : Nat × (Nat → Int32)} {I : Nat → Nat → Int32} {v3 : Int32}  : zr X 188 248 [.ref 0, .ref 1, .ref 160, .int v3] [] (zk I) = some (some (.int 0), zk I) :=
  (zr_iconst t188_248 zci_0).trans <|
    zr_zret t188_249 rfl (Or.inl rfl)
theorem k188_250 {X : Nat × (Nat → Int32)} {I : Nat → Nat → Int32} {v3 : Int32} (q1 : zin (v3 + 1) X.1 = true) : zr X 188 250 [.ref 0, .ref 1, .ref 160, .int v3] [] (zk I) = zcb (zr X 92 0 [.ref 1, .int (X.2 (zx (v3 + 1)))] [] (zk I)) (fun v m1 => zr X 188 259 [.ref 0, .ref 1, .ref 160, .int v3] (v.toList ++ []) m1) :=
  (zr_aload_n t188_250 rfl).trans <|
    (zr_aload_n t188_251 rfl).trans <|
    (zr_iload_n t188_252 rfl).trans <|
    (zr_iconst t188_253 zci_1).trans <|
    (zr_iadd t188_254).trans <|
    (zr_sld (j := zx (v3 + 1)) t188_255 rfl q1).trans <|
    zr_callv t188_256 rfl rfl rfl rfl
theorem k188_259 {X : Nat × (Nat → Int32)} {I : Nat → Nat → Int32} {v3 : Int32} {s0 : Int32} (q1 : zin (v3 + 1) X.1 = true) : zr X 188 259 [.ref 0, .ref 1, .ref 160, .int v3] [.int s0] (zk I) = zcb (zr X 146 0 [.ref 160, .int (X.2 (zx (v3 + 1)))] [] (zk I)) (fun v m1 => zr X 188 268 [.ref 0, .ref 1, .ref 160, .int v3] (v.toList ++ [.int s0]) m1) :=
  (zr_aload_n t188_259 rfl).trans <|
    (zr_aload_n t188_260 rfl).trans <|
    (zr_iload_n t188_261 rfl).trans <|
    (zr_iconst t188_262 zci_1).trans <|
    (zr_iadd t188_263).trans <|
    (zr_sld (j := zx (v3 + 1)) t188_264 rfl q1).trans <|
    zr_callv t188_265 rfl rfl rfl rfl
theorem k188_268 {X : Nat × (Nat → Int32)} {I : Nat → Nat → Int32} {v3 : Int32} {s0 : Int32} {s1 : Int32}  : zr X 188 268 [.ref 0, .ref 1, .ref 160, .int v3] [.int s1, .int s0] (zk I) = if s0 = s1 then zr X 188 793 [.ref 0, .ref 1, .ref 160, .int v3] [] (zk I) else zr X 188 271 [.ref 0, .ref 1, .ref 160, .int v3] [] (zk I) :=
  zr_ic_eq (tgt := 793) t188_268 rfl
theorem k188_271 {X : Nat × (Nat → Int32)} {I : Nat → Nat → Int32} {v3 : Int32}  : zr X 188 271 [.ref 0, .ref 1, .ref 160, .int v3] [] (zk I) = some (some (.int 0), zk I) :=
  (zr_iconst t188_271 zci_0).trans <|
    zr_zret t188_272 rfl (Or.inl rfl)
theorem k188_273 {X : Nat × (Nat → Int32)} {I : Nat → Nat → Int32} {v3 : Int32} (q1 : zin (v3 + 1) X.1 = true) : zr X 188 273 [.ref 0, .ref 1, .ref 160, .int v3] [] (zk I) = zcb (zr X 93 0 [.ref 1, .int (X.2 (zx (v3 + 1)))] [] (zk I)) (fun v m1 => zr X 188 282 [.ref 0, .ref 1, .ref 160, .int v3] (v.toList ++ []) m1) :=
  (zr_aload_n t188_273 rfl).trans <|
    (zr_aload_n t188_274 rfl).trans <|
    (zr_iload_n t188_275 rfl).trans <|
    (zr_iconst t188_276 zci_1).trans <|
    (zr_iadd t188_277).trans <|
    (zr_sld (j := zx (v3 + 1)) t188_278 rfl q1).trans <|
    zr_callv t188_279 rfl rfl rfl rfl
theorem k188_282 {X : Nat × (Nat → Int32)} {I : Nat → Nat → Int32} {v3 : Int32} {s0 : Int32} (q1 : zin (v3 + 1) X.1 = true) : zr X 188 282 [.ref 0, .ref 1, .ref 160, .int v3] [.int s0] (zk I) = zcb (zr X 148 0 [.ref 160, .int (X.2 (zx (v3 + 1)))] [] (zk I)) (fun v m1 => zr X 188 291 [.ref 0, .ref 1, .ref 160, .int v3] (v.toList ++ [.int s0]) m1) :=
  (zr_aload_n t188_282 rfl).trans <|
    (zr_aload_n t188_283 rfl).trans <|
    (zr_iload_n t188_284 rfl).trans <|
    (zr_iconst t188_285 zci_1).trans <|
    (zr_iadd t188_286).trans <|
    (zr_sld (j := zx (v3 + 1)) t188_287 rfl q1).trans <|
    zr_callv t188_288 rfl rfl rfl rfl
theorem k188_291 {X : Nat × (Nat → Int32)} {I : Nat → Nat → Int32} {v3 : Int32} {s0 : Int32} {s1 : Int32}  : zr X 188 291 [.ref 0, .ref 1, .ref 160, .int v3] [.int s1, .int s0] (zk I) = if s0 = s1 then zr X 188 793 [.ref 0, .ref 1, .ref 160, .int v3] [] (zk I) else zr X 188 294 [.ref 0, .ref 1, .ref 160, .int v3] [] (zk I) :=
  zr_ic_eq (tgt := 793) t188_291 rfl
theorem k188_294 {X : Nat × (Nat → Int32)} {I : Nat → Nat → Int32} {v3 : Int32}  : zr X 188 294 [.ref 0, .ref 1, .ref 160, .int v3] [] (zk I) = some (some (.int 0), zk I) :=
  (zr_iconst t188_294 zci_0).trans <|
    zr_zret t188_295 rfl (Or.inl rfl)
theorem k188_296 {X : Nat × (Nat → Int32)} {I : Nat → Nat → Int32} {v3 : Int32} (q1 : zin (v3 + 1) X.1 = true) : zr X 188 296 [.ref 0, .ref 1, .ref 160, .int v3] [] (zk I) = zcb (zr X 94 0 [.ref 1, .int (X.2 (zx (v3 + 1)))] [] (zk I)) (fun v m1 => zr X 188 305 [.ref 0, .ref 1, .ref 160, .int v3] (v.toList ++ []) m1) :=
  (zr_aload_n t188_296 rfl).trans <|
    (zr_aload_n t188_297 rfl).trans <|
    (zr_iload_n t188_298 rfl).trans <|
    (zr_iconst t188_299 zci_1).trans <|
    (zr_iadd t188_300).trans <|
    (zr_sld (j := zx (v3 + 1)) t188_301 rfl q1).trans <|
    zr_callv t188_302 rfl rfl rfl rfl
theorem k188_305 {X : Nat × (Nat → Int32)} {I : Nat → Nat → Int32} {v3 : Int32} {s0 : Int32} (q1 : zin (v3 + 1) X.1 = true) : zr X 188 305 [.ref 0, .ref 1, .ref 160, .int v3] [.int s0] (zk I) = zcb (zr X 150 0 [.ref 160, .int (X.2 (zx (v3 + 1)))] [] (zk I)) (fun v m1 => zr X 188 314 [.ref 0, .ref 1, .ref 160, .int v3] (v.toList ++ [.int s0]) m1) :=
  (zr_aload_n t188_305 rfl).trans <|
    (zr_aload_n t188_306 rfl).trans <|
    (zr_iload_n t188_307 rfl).trans <|
    (zr_iconst t188_308 zci_1).trans <|
    (zr_iadd t188_309).trans <|
    (zr_sld (j := zx (v3 + 1)) t188_310 rfl q1).trans <|
    zr_callv t188_311 rfl rfl rfl rfl
theorem k188_314 {X : Nat × (Nat → Int32)} {I : Nat → Nat → Int32} {v3 : Int32} {s0 : Int32} {s1 : Int32}  : zr X 188 314 [.ref 0, .ref 1, .ref 160, .int v3] [.int s1, .int s0] (zk I) = if s0 = s1 then zr X 188 793 [.ref 0, .ref 1, .ref 160, .int v3] [] (zk I) else zr X 188 317 [.ref 0, .ref 1, .ref 160, .int v3] [] (zk I) :=
  zr_ic_eq (tgt := 793) t188_314 rfl
theorem k188_317 {X : Nat × (Nat → Int32)} {I : Nat → Nat → Int32} {v3 : Int32}  : zr X 188 317 [.ref 0, .ref 1, .ref 160, .int v3] [] (zk I) = some (some (.int 0), zk I) :=
  (zr_iconst t188_317 zci_0).trans <|
    zr_zret t188_318 rfl (Or.inl rfl)
theorem k188_319 {X : Nat × (Nat → Int32)} {I : Nat → Nat → Int32} {v3 : Int32}  : zr X 188 319 [.ref 0, .ref 1, .ref 160, .int v3] [] (zk I) = zcb (zr X 95 0 [.ref 1] [] (zk I)) (fun v m1 => zr X 188 323 [.ref 0, .ref 1, .ref 160, .int v3] (v.toList ++ []) m1) :=
  (zr_aload_n t188_319 rfl).trans <|
    zr_callv t188_320 rfl rfl rfl rfl
theorem k188_323 {X : Nat × (Nat → Int32)} {I : Nat → Nat → Int32} {v3 : Int32} {s0 : Int32}  : zr X 188 323 [.ref 0, .ref 1, .ref 160, .int v3] [.int s0] (zk I) = zcb (zr X 153 0 [.ref 160] [] (zk I)) (fun v m1 => zr X 188 327 [.ref 0, .ref 1, .ref 160, .int v3] (v.toList ++ [.int s0]) m1) :=
  (zr_aload_n t188_323 rfl).trans <|
    zr_callv t188_324 rfl rfl rfl rfl
theorem k188_327 {X : Nat × (Nat → Int32)} {I : Nat → Nat → Int32} {v3 : Int32} {s0 : Int32} {s1 : Int32}  : zr X 188 327 [.ref 0, .ref 1, .ref 160, .int v3] [.int s1, .int s0] (zk I) = if s0 = s1 then zr X 188 793 [.ref 0, .ref 1, .ref 160, .int v3] [] (zk I) else zr X 188 330 [.ref 0, .ref 1, .ref 160, .int v3] [] (zk I) :=
  zr_ic_eq (tgt := 793) t188_327 rfl
theorem k188_330 {X : Nat × (Nat → Int32)} {I : Nat → Nat → Int32} {v3 : Int32}  : zr X 188 330 [.ref 0, .ref 1, .ref 160, .int v3] [] (zk I) = some (some (.int 0), zk I) :=
  (zr_iconst t188_330 zci_0).trans <|
    zr_zret t188_331 rfl (Or.inl rfl)
theorem k188_332 {X : Nat × (Nat → Int32)} {I : Nat → Nat → Int32} {v3 : Int32}  : zr X 188 332 [.ref 0, .ref 1, .ref 160, .int v3] [] (zk I) = zcb (zr X 96 0 [.ref 1] [] (zk I)) (fun v m1 => zr X 188 336 [.ref 0, .ref 1, .ref 160, .int v3] (v.toList ++ []) m1) :=
  (zr_aload_n t188_332 rfl).trans <|
    zr_callv t188_333 rfl rfl rfl rfl
theorem k188_336 {X : Nat × (Nat → Int32)} {I : Nat → Nat → Int32} {v3 : Int32} {s0 : Int32}  : zr X 188 336 [.ref 0, .ref 1, .ref 160, .int v3] [.int s0] (zk I) = zcb (zr X 156 0 [.ref 160, .null] [] (zk I)) (fun v m1 => zr X 188 340 [.ref 0, .ref 1, .ref 160, .int v3] (v.toList ++ [.int s0]) m1) :=
  (zr_aload_n t188_336 rfl).trans <|
    zr_callv t188_337 rfl rfl rfl rfl
theorem k188_340 {X : Nat × (Nat → Int32)} {I : Nat → Nat → Int32} {v3 : Int32} {s0 : Int32} {s1 : Int32}  : zr X 188 340 [.ref 0, .ref 1, .ref 160, .int v3] [.int s1, .int s0] (zk I) = if s0 = s1 then zr X 188 793 [.ref 0, .ref 1, .ref 160, .int v3] [] (zk I) else zr X 188 343 [.ref 0, .ref 1, .ref 160, .int v3] [] (zk I) :=
  zr_ic_eq (tgt := 793) t188_340 rfl
theorem k188_343 {X : Nat × (Nat → Int32)} {I : Nat → Nat → Int32} {v3 : Int32}  : zr X 188 343 [.ref 0, .ref 1, .ref 160, .int v3] [] (zk I) = some (some (.int 0), zk I) :=
  (zr_iconst t188_343 zci_0).trans <|
    zr_zret t188_344 rfl (Or.inl rfl)
theorem k188_345 {X : Nat × (Nat → Int32)} {I : Nat → Nat → Int32} {v3 : Int32} (q1 : zin (v3 + 1) X.1 = true) (q2 : zin (v3 + 2) X.1 = true) : zr X 188 345 [.ref 0, .ref 1, .ref 160, .int v3] [] (zk I) = zcb (zr X 97 0 [.ref 1, .int (X.2 (zx (v3 + 1))), .int (X.2 (zx (v3 + 2)))] [] (zk I)) (fun v m1 => zr X 188 359 [.ref 0, .ref 1, .ref 160, .int v3] (v.toList ++ []) m1) :=
  (zr_aload_n t188_345 rfl).trans <|
    (zr_aload_n t188_346 rfl).trans <|
    (zr_iload_n t188_347 rfl).trans <|
    (zr_iconst t188_348 zci_1).trans <|
    (zr_iadd t188_349).trans <|
    (zr_sld (j := zx (v3 + 1)) t188_350 rfl q1).trans <|
    (zr_aload_n t188_351 rfl).trans <|
    (zr_iload_n t188_352 rfl).trans <|
    (zr_iconst t188_353 zci_2).trans <|
    (zr_iadd t188_354).trans <|
    (zr_sld (j := zx (v3 + 2)) t188_355 rfl q2).trans <|
    zr_callv t188_356 rfl rfl rfl rfl
theorem k188_359 {X : Nat × (Nat → Int32)} {I : Nat → Nat → Int32} {v3 : Int32} {s0 : Int32} (q1 : zin (v3 + 1) X.1 = true) (q2 : zin (v3 + 2) X.1 = true) : zr X 188 359 [.ref 0, .ref 1, .ref 160, .int v3] [.int s0] (zk I) = zcb (zr X 157 0 [.ref 160, .int (X.2 (zx (v3 + 1))), .int (X.2 (zx (v3 + 2)))] [] (zk I)) (fun v m1 => zr X 188 373 [.ref 0, .ref 1, .ref 160, .int v3] (v.toList ++ [.int s0]) m1) :=
  (zr_aload_n t188_359 rfl).trans <|
    (zr_aload_n t188_360 rfl).trans <|
    (zr_iload_n t188_361 rfl).trans <|
    (zr_iconst t188_362 zci_1).trans <|
    (zr_iadd t188_363).trans <|
    (zr_sld (j := zx (v3 + 1)) t188_364 rfl q1).trans <|
    (zr_aload_n t188_365 rfl).trans <|
    (zr_iload_n t188_366 rfl).trans <|
    (zr_iconst t188_367 zci_2).trans <|
    (zr_iadd t188_368).trans <|
    (zr_sld (j := zx (v3 + 2)) t188_369 rfl q2).trans <|
    zr_callv t188_370 rfl rfl rfl rfl
theorem k188_373 {X : Nat × (Nat → Int32)} {I : Nat → Nat → Int32} {v3 : Int32} {s0 : Int32} {s1 : Int32}  : zr X 188 373 [.ref 0, .ref 1, .ref 160, .int v3] [.int s1, .int s0] (zk I) = if s0 = s1 then zr X 188 793 [.ref 0, .ref 1, .ref 160, .int v3] [] (zk I) else zr X 188 376 [.ref 0, .ref 1, .ref 160, .int v3] [] (zk I) :=
  zr_ic_eq (tgt := 793) t188_373 rfl
theorem k188_376 {X : Nat × (Nat → Int32)} {I : Nat → Nat → Int32} {v3 : Int32}  : zr X 188 376 [.ref 0, .ref 1, .ref 160, .int v3] [] (zk I) = some (some (.int 0), zk I) :=
  (zr_iconst t188_376 zci_0).trans <|
    zr_zret t188_377 rfl (Or.inl rfl)
theorem k188_378 {X : Nat × (Nat → Int32)} {I : Nat → Nat → Int32} {v3 : Int32} (q1 : zin (v3 + 1) X.1 = true) (q2 : zin (v3 + 2) X.1 = true) : zr X 188 378 [.ref 0, .ref 1, .ref 160, .int v3] [] (zk I) = zcb (zr X 98 0 [.ref 1, .int (X.2 (zx (v3 + 1))), .int (X.2 (zx (v3 + 2)))] [] (zk I)) (fun v m1 => zr X 188 392 [.ref 0, .ref 1, .ref 160, .int v3] (v.toList ++ []) m1) :=
  (zr_aload_n t188_378 rfl).trans <|
    (zr_aload_n t188_379 rfl).trans <|
    (zr_iload_n t188_380 rfl).trans <|
    (zr_iconst t188_381 zci_1).trans <|
    (zr_iadd t188_382).trans <|
    (zr_sld (j := zx (v3 + 1)) t188_383 rfl q1).trans <|
    (zr_aload_n t188_384 rfl).trans <|
    (zr_iload_n t188_385 rfl).trans <|
    (zr_iconst t188_386 zci_2).trans <|
    (zr_iadd t188_387).trans <|
    (zr_sld (j := zx (v3 + 2)) t188_388 rfl q2).trans <|
    zr_callv t188_389 rfl rfl rfl rfl
theorem k188_392 {X : Nat × (Nat → Int32)} {I : Nat → Nat → Int32} {v3 : Int32} {s0 : Int32} (q1 : zin (v3 + 1) X.1 = true) (q2 : zin (v3 + 2) X.1 = true) : zr X 188 392 [.ref 0, .ref 1, .ref 160, .int v3] [.int s0] (zk I) = zcb (zr X 158 0 [.ref 160, .int (X.2 (zx (v3 + 1))), .int (X.2 (zx (v3 + 2)))] [] (zk I)) (fun v m1 => zr X 188 406 [.ref 0, .ref 1, .ref 160, .int v3] (v.toList ++ [.int s0]) m1) :=
  (zr_aload_n t188_392 rfl).trans <|
    (zr_aload_n t188_393 rfl).trans <|
    (zr_iload_n t188_394 rfl).trans <|
    (zr_iconst t188_395 zci_1).trans <|
    (zr_iadd t188_396).trans <|
    (zr_sld (j := zx (v3 + 1)) t188_397 rfl q1).trans <|
    (zr_aload_n t188_398 rfl).trans <|
    (zr_iload_n t188_399 rfl).trans <|
    (zr_iconst t188_400 zci_2).trans <|
    (zr_iadd t188_401).trans <|
    (zr_sld (j := zx (v3 + 2)) t188_402 rfl q2).trans <|
    zr_callv t188_403 rfl rfl rfl rfl
theorem k188_406 {X : Nat × (Nat → Int32)} {I : Nat → Nat → Int32} {v3 : Int32} {s0 : Int32} {s1 : Int32}  : zr X 188 406 [.ref 0, .ref 1, .ref 160, .int v3] [.int s1, .int s0] (zk I) = if s0 = s1 then zr X 188 793 [.ref 0, .ref 1, .ref 160, .int v3] [] (zk I) else zr X 188 409 [.ref 0, .ref 1, .ref 160, .int v3] [] (zk I) :=
  zr_ic_eq (tgt := 793) t188_406 rfl
theorem k188_409 {X : Nat × (Nat → Int32)} {I : Nat → Nat → Int32} {v3 : Int32}  : zr X 188 409 [.ref 0, .ref 1, .ref 160, .int v3] [] (zk I) = some (some (.int 0), zk I) :=
  (zr_iconst t188_409 zci_0).trans <|
    zr_zret t188_410 rfl (Or.inl rfl)
theorem k188_411 {X : Nat × (Nat → Int32)} {I : Nat → Nat → Int32} {v3 : Int32} (q1 : zin (v3 + 1) X.1 = true) (q2 : zin (v3 + 2) X.1 = true) : zr X 188 411 [.ref 0, .ref 1, .ref 160, .int v3] [] (zk I) = zcb (zr X 99 0 [.ref 1, .int (X.2 (zx (v3 + 1))), .int (X.2 (zx (v3 + 2))), .null] [] (zk I)) (fun v m1 => zr X 188 425 [.ref 0, .ref 1, .ref 160, .int v3] (v.toList ++ []) m1) :=
  (zr_aload_n t188_411 rfl).trans <|
    (zr_aload_n t188_412 rfl).trans <|
    (zr_iload_n t188_413 rfl).trans <|
    (zr_iconst t188_414 zci_1).trans <|
    (zr_iadd t188_415).trans <|
    (zr_sld (j := zx (v3 + 1)) t188_416 rfl q1).trans <|
    (zr_aload_n t188_417 rfl).trans <|
    (zr_iload_n t188_418 rfl).trans <|
    (zr_iconst t188_419 zci_2).trans <|
    (zr_iadd t188_420).trans <|
    (zr_sld (j := zx (v3 + 2)) t188_421 rfl q2).trans <|
    zr_callv t188_422 rfl rfl rfl rfl
theorem k188_425 {X : Nat × (Nat → Int32)} {I : Nat → Nat → Int32} {v3 : Int32} {s0 : Int32} (q1 : zin (v3 + 1) X.1 = true) (q2 : zin (v3 + 2) X.1 = true) : zr X 188 425 [.ref 0, .ref 1, .ref 160, .int v3] [.int s0] (zk I) = zcb (zr X 160 0 [.ref 160, .int (X.2 (zx (v3 + 1))), .int (X.2 (zx (v3 + 2)))] [] (zk I)) (fun v m1 => zr X 188 439 [.ref 0, .ref 1, .ref 160, .int v3] (v.toList ++ [.int s0]) m1) :=
  (zr_aload_n t188_425 rfl).trans <|
    (zr_aload_n t188_426 rfl).trans <|
    (zr_iload_n t188_427 rfl).trans <|
    (zr_iconst t188_428 zci_1).trans <|
    (zr_iadd t188_429).trans <|
    (zr_sld (j := zx (v3 + 1)) t188_430 rfl q1).trans <|
    (zr_aload_n t188_431 rfl).trans <|
    (zr_iload_n t188_432 rfl).trans <|
    (zr_iconst t188_433 zci_2).trans <|
    (zr_iadd t188_434).trans <|
    (zr_sld (j := zx (v3 + 2)) t188_435 rfl q2).trans <|
    zr_callv t188_436 rfl rfl rfl rfl
theorem k188_439 {X : Nat × (Nat → Int32)} {I : Nat → Nat → Int32} {v3 : Int32} {s0 : Int32} {s1 : Int32}  : zr X 188 439 [.ref 0, .ref 1, .ref 160, .int v3] [.int s1, .int s0] (zk I) = if s0 = s1 then zr X 188 793 [.ref 0, .ref 1, .ref 160, .int v3] [] (zk I) else zr X 188 442 [.ref 0, .ref 1, .ref 160, .int v3] [] (zk I) :=
  zr_ic_eq (tgt := 793) t188_439 rfl
theorem k188_442 {X : Nat × (Nat → Int32)} {I : Nat → Nat → Int32} {v3 : Int32}  : zr X 188 442 [.ref 0, .ref 1, .ref 160, .int v3] [] (zk I) = some (some (.int 0), zk I) :=
  (zr_iconst t188_442 zci_0).trans <|
    zr_zret t188_443 rfl (Or.inl rfl)
theorem k188_444 {X : Nat × (Nat → Int32)} {I : Nat → Nat → Int32} {v3 : Int32} (q1 : zin (v3 + 1) X.1 = true) (q2 : zin (v3 + 2) X.1 = true) : zr X 188 444 [.ref 0, .ref 1, .ref 160, .int v3] [] (zk I) = zcb (zr X 100 0 [.ref 1, .int (X.2 (zx (v3 + 1))), .int (X.2 (zx (v3 + 2)))] [] (zk I)) (fun v m1 => zr X 188 458 [.ref 0, .ref 1, .ref 160, .int v3] (v.toList ++ []) m1) :=
  (zr_aload_n t188_444 rfl).trans <|
    (zr_aload_n t188_445 rfl).trans <|
    (zr_iload_n t188_446 rfl).trans <|
    (zr_iconst t188_447 zci_1).trans <|
    (zr_iadd t188_448).trans <|
    (zr_sld (j := zx (v3 + 1)) t188_449 rfl q1).trans <|
    (zr_aload_n t188_450 rfl).trans <|
    (zr_iload_n t188_451 rfl).trans <|
    (zr_iconst t188_452 zci_2).trans <|
    (zr_iadd t188_453).trans <|
    (zr_sld (j := zx (v3 + 2)) t188_454 rfl q2).trans <|
    zr_callv t188_455 rfl rfl rfl rfl
theorem k188_458 {X : Nat × (Nat → Int32)} {I : Nat → Nat → Int32} {v3 : Int32} {s0 : Int32} (q1 : zin (v3 + 1) X.1 = true) (q2 : zin (v3 + 2) X.1 = true) : zr X 188 458 [.ref 0, .ref 1, .ref 160, .int v3] [.int s0] (zk I) = zcb (zr X 161 0 [.ref 160, .int (X.2 (zx (v3 + 1))), .int (X.2 (zx (v3 + 2)))] [] (zk I)) (fun v m1 => zr X 188 472 [.ref 0, .ref 1, .ref 160, .int v3] (v.toList ++ [.int s0]) m1) :=
  (zr_aload_n t188_458 rfl).trans <|
    (zr_aload_n t188_459 rfl).trans <|
    (zr_iload_n t188_460 rfl).trans <|
    (zr_iconst t188_461 zci_1).trans <|
    (zr_iadd t188_462).trans <|
    (zr_sld (j := zx (v3 + 1)) t188_463 rfl q1).trans <|
    (zr_aload_n t188_464 rfl).trans <|
    (zr_iload_n t188_465 rfl).trans <|
    (zr_iconst t188_466 zci_2).trans <|
    (zr_iadd t188_467).trans <|
    (zr_sld (j := zx (v3 + 2)) t188_468 rfl q2).trans <|
    zr_callv t188_469 rfl rfl rfl rfl
theorem k188_472 {X : Nat × (Nat → Int32)} {I : Nat → Nat → Int32} {v3 : Int32} {s0 : Int32} {s1 : Int32}  : zr X 188 472 [.ref 0, .ref 1, .ref 160, .int v3] [.int s1, .int s0] (zk I) = if s0 = s1 then zr X 188 793 [.ref 0, .ref 1, .ref 160, .int v3] [] (zk I) else zr X 188 475 [.ref 0, .ref 1, .ref 160, .int v3] [] (zk I) :=
  zr_ic_eq (tgt := 793) t188_472 rfl
theorem k188_475 {X : Nat × (Nat → Int32)} {I : Nat → Nat → Int32} {v3 : Int32}  : zr X 188 475 [.ref 0, .ref 1, .ref 160, .int v3] [] (zk I) = some (some (.int 0), zk I) :=
  (zr_iconst t188_475 zci_0).trans <|
    zr_zret t188_476 rfl (Or.inl rfl)
theorem k188_477 {X : Nat × (Nat → Int32)} {I : Nat → Nat → Int32} {v3 : Int32} (q1 : zin (v3 + 1) X.1 = true) (q2 : zin (v3 + 2) X.1 = true) : zr X 188 477 [.ref 0, .ref 1, .ref 160, .int v3] [] (zk I) = zcb (zr X 101 0 [.ref 1, .int (X.2 (zx (v3 + 1))), .int (X.2 (zx (v3 + 2)))] [] (zk I)) (fun v m1 => zr X 188 491 [.ref 0, .ref 1, .ref 160, .int v3] (v.toList ++ []) m1) :=
  (zr_aload_n t188_477 rfl).trans <|
    (zr_aload_n t188_478 rfl).trans <|
    (zr_iload_n t188_479 rfl).trans <|
    (zr_iconst t188_480 zci_1).trans <|
    (zr_iadd t188_481).trans <|
    (zr_sld (j := zx (v3 + 1)) t188_482 rfl q1).trans <|
    (zr_aload_n t188_483 rfl).trans <|
    (zr_iload_n t188_484 rfl).trans <|
    (zr_iconst t188_485 zci_2).trans <|
    (zr_iadd t188_486).trans <|
    (zr_sld (j := zx (v3 + 2)) t188_487 rfl q2).trans <|
    zr_callv t188_488 rfl rfl rfl rfl
theorem k188_491 {X : Nat × (Nat → Int32)} {I : Nat → Nat → Int32} {v3 : Int32} {s0 : Int32} (q1 : zin (v3 + 1) X.1 = true) (q2 : zin (v3 + 2) X.1 = true) : zr X 188 491 [.ref 0, .ref 1, .ref 160, .int v3] [.int s0] (zk I) = zcb (zr X 163 0 [.ref 160, .int (X.2 (zx (v3 + 1))), .int (X.2 (zx (v3 + 2)))] [] (zk I)) (fun v m1 => zr X 188 505 [.ref 0, .ref 1, .ref 160, .int v3] (v.toList ++ [.int s0]) m1) :=
  (zr_aload_n t188_491 rfl).trans <|
    (zr_aload_n t188_492 rfl).trans <|
    (zr_iload_n t188_493 rfl).trans <|
    (zr_iconst t188_494 zci_1).trans <|
    (zr_iadd t188_495).trans <|
    (zr_sld (j := zx (v3 + 1)) t188_496 rfl q1).trans <|
    (zr_aload_n t188_497 rfl).trans <|
    (zr_iload_n t188_498 rfl).trans <|
    (zr_iconst t188_499 zci_2).trans <|
    (zr_iadd t188_500).trans <|
    (zr_sld (j := zx (v3 + 2)) t188_501 rfl q2).trans <|
    zr_callv t188_502 rfl rfl rfl rfl
theorem k188_505 {X : Nat × (Nat → Int32)} {I : Nat → Nat → Int32} {v3 : Int32} {s0 : Int32} {s1 : Int32}  : zr X 188 505 [.ref 0, .ref 1, .ref 160, .int v3] [.int s1, .int s0] (zk I) = if s0 = s1 then zr X 188 793 [.ref 0, .ref 1, .ref 160, .int v3] [] (zk I) else zr X 188 508 [.ref 0, .ref 1, .ref 160, .int v3] [] (zk I) :=
  zr_ic_eq (tgt := 793) t188_505 rfl
theorem k188_508 {X : Nat × (Nat → Int32)} {I : Nat → Nat → Int32} {v3 : Int32}  : zr X 188 508 [.ref 0, .ref 1, .ref 160, .int v3] [] (zk I) = some (some (.int 0), zk I) :=
  (zr_iconst t188_508 zci_0).trans <|
    zr_zret t188_509 rfl (Or.inl rfl)
theorem k188_510 {X : Nat × (Nat → Int32)} {I : Nat → Nat → Int32} {v3 : Int32} (q1 : zin (v3 + 1) X.1 = true) : zr X 188 510 [.ref 0, .ref 1, .ref 160, .int v3] [] (zk I) = zcb (zr X 102 0 [.ref 1, .int (X.2 (zx (v3 + 1)))] [] (zk I)) (fun v m1 => zr X 188 519 [.ref 0, .ref 1, .ref 160, .int v3] (v.toList ++ []) m1) :=
  (zr_aload_n t188_510 rfl).trans <|
    (zr_aload_n t188_511 rfl).trans <|
    (zr_iload_n t188_512 rfl).trans <|
    (zr_iconst t188_513 zci_1).trans <|
    (zr_iadd t188_514).trans <|
    (zr_sld (j := zx (v3 + 1)) t188_515 rfl q1).trans <|
    zr_callv t188_516 rfl rfl rfl rfl
theorem k188_519 {X : Nat × (Nat → Int32)} {I : Nat → Nat → Int32} {v3 : Int32} {s0 : Int32} (q1 : zin (v3 + 1) X.1 = true) : zr X 188 519 [.ref 0, .ref 1, .ref 160, .int v3] [.int s0] (zk I) = zcb (zr X 165 0 [.ref 160, .int (X.2 (zx (v3 + 1)))] [] (zk I)) (fun v m1 => zr X 188 528 [.ref 0, .ref 1, .ref 160, .int v3] (v.toList ++ [.int s0]) m1) :=
  (zr_aload_n t188_519 rfl).trans <|
    (zr_aload_n t188_520 rfl).trans <|
    (zr_iload_n t188_521 rfl).trans <|
    (zr_iconst t188_522 zci_1).trans <|
    (zr_iadd t188_523).trans <|
    (zr_sld (j := zx (v3 + 1)) t188_524 rfl q1).trans <|
    zr_callv t188_525 rfl rfl rfl rfl
theorem k188_528 {X : Nat × (Nat → Int32)} {I : Nat → Nat → Int32} {v3 : Int32} {s0 : Int32} {s1 : Int32}  : zr X 188 528 [.ref 0, .ref 1, .ref 160, .int v3] [.int s1, .int s0] (zk I) = if s0 = s1 then zr X 188 793 [.ref 0, .ref 1, .ref 160, .int v3] [] (zk I) else zr X 188 531 [.ref 0, .ref 1, .ref 160, .int v3] [] (zk I) :=
  zr_ic_eq (tgt := 793) t188_528 rfl
theorem k188_531 {X : Nat × (Nat → Int32)} {I : Nat → Nat → Int32} {v3 : Int32}  : zr X 188 531 [.ref 0, .ref 1, .ref 160, .int v3] [] (zk I) = some (some (.int 0), zk I) :=
  (zr_iconst t188_531 zci_0).trans <|
    zr_zret t188_532 rfl (Or.inl rfl)
theorem k188_533 {X : Nat × (Nat → Int32)} {I : Nat → Nat → Int32} {v3 : Int32} (q1 : zin (v3 + 1) X.1 = true) (q2 : zin (v3 + 2) X.1 = true) : zr X 188 533 [.ref 0, .ref 1, .ref 160, .int v3] [] (zk I) = zcb (zr X 103 0 [.ref 1, .int (X.2 (zx (v3 + 1))), .int (X.2 (zx (v3 + 2)))] [] (zk I)) (fun v m1 => zr X 188 547 [.ref 0, .ref 1, .ref 160, .int v3] (v.toList ++ []) m1) :=
  (zr_aload_n t188_533 rfl).trans <|
    (zr_aload_n t188_534 rfl).trans <|
    (zr_iload_n t188_535 rfl).trans <|
    (zr_iconst t188_536 zci_1).trans <|
    (zr_iadd t188_537).trans <|
    (zr_sld (j := zx (v3 + 1)) t188_538 rfl q1).trans <|
    (zr_aload_n t188_539 rfl).trans <|
    (zr_iload_n t188_540 rfl).trans <|
    (zr_iconst t188_541 zci_2).trans <|
    (zr_iadd t188_542).trans <|
    (zr_sld (j := zx (v3 + 2)) t188_543 rfl q2).trans <|
    zr_callv t188_544 rfl rfl rfl rfl
theorem k188_547 {X : Nat × (Nat → Int32)} {I : Nat → Nat → Int32} {v3 : Int32} {s0 : Int32} (q1 : zin (v3 + 1) X.1 = true) (q2 : zin (v3 + 2) X.1 = true) : zr X 188 547 [.ref 0, .ref 1, .ref 160, .int v3] [.int s0] (zk I) = zcb (zr X 167 0 [.ref 160, .int (X.2 (zx (v3 + 1))), .int (X.2 (zx (v3 + 2))), .null] [] (zk I)) (fun v m1 => zr X 188 561 [.ref 0, .ref 1, .ref 160, .int v3] (v.toList ++ [.int s0]) m1) :=
  (zr_aload_n t188_547 rfl).trans <|
    (zr_aload_n t188_548 rfl).trans <|
    (zr_iload_n t188_549 rfl).trans <|
    (zr_iconst t188_550 zci_1).trans <|
    (zr_iadd t188_551).trans <|
    (zr_sld (j := zx (v3 + 1)) t188_552 rfl q1).trans <|
    (zr_aload_n t188_553 rfl).trans <|
    (zr_iload_n t188_554 rfl).trans <|
    (zr_iconst t188_555 zci_2).trans <|
    (zr_iadd t188_556).trans <|
    (zr_sld (j := zx (v3 + 2)) t188_557 rfl q2).trans <|
    zr_callv t188_558 rfl rfl rfl rfl
theorem k188_561 {X : Nat × (Nat → Int32)} {I : Nat → Nat → Int32} {v3 : Int32} {s0 : Int32} {s1 : Int32}  : zr X 188 561 [.ref 0, .ref 1, .ref 160, .int v3] [.int s1, .int s0] (zk I) = if s0 = s1 then zr X 188 793 [.ref 0, .ref 1, .ref 160, .int v3] [] (zk I) else zr X 188 564 [.ref 0, .ref 1, .ref 160, .int v3] [] (zk I) :=
  zr_ic_eq (tgt := 793) t188_561 rfl
theorem k188_564 {X : Nat × (Nat → Int32)} {I : Nat → Nat → Int32} {v3 : Int32}  : zr X 188 564 [.ref 0, .ref 1, .ref 160, .int v3] [] (zk I) = some (some (.int 0), zk I) :=
  (zr_iconst t188_564 zci_0).trans <|
    zr_zret t188_565 rfl (Or.inl rfl)
theorem k188_566 {X : Nat × (Nat → Int32)} {I : Nat → Nat → Int32} {v3 : Int32} (q1 : zin (v3 + 1) X.1 = true) (q2 : zin (v3 + 2) X.1 = true) : zr X 188 566 [.ref 0, .ref 1, .ref 160, .int v3] [] (zk I) = zcb (zr X 104 0 [.ref 1, .int (X.2 (zx (v3 + 1))), .int (X.2 (zx (v3 + 2)))] [] (zk I)) (fun v m1 => zr X 188 580 [.ref 0, .ref 1, .ref 160, .int v3] (v.toList ++ []) m1) :=
  (zr_aload_n t188_566 rfl).trans <|
    (zr_aload_n t188_567 rfl).trans <|
    (zr_iload_n t188_568 rfl).trans <|
    (zr_iconst t188_569 zci_1).trans <|
    (zr_iadd t188_570).trans <|
    (zr_sld (j := zx (v3 + 1)) t188_571 rfl q1).trans <|
    (zr_aload_n t188_572 rfl).trans <|
    (zr_iload_n t188_573 rfl).trans <|
    (zr_iconst t188_574 zci_2).trans <|
    (zr_iadd t188_575).trans <|
    (zr_sld (j := zx (v3 + 2)) t188_576 rfl q2).trans <|
    zr_callv t188_577 rfl rfl rfl rfl
theorem k188_580 {X : Nat × (Nat → Int32)} {I : Nat → Nat → Int32} {v3 : Int32} {s0 : Int32} (q1 : zin (v3 + 1) X.1 = true) (q2 : zin (v3 + 2) X.1 = true) : zr X 188 580 [.ref 0, .ref 1, .ref 160, .int v3] [.int s0] (zk I) = zcb (zr X 169 0 [.ref 160, .int (X.2 (zx (v3 + 1))), .int (X.2 (zx (v3 + 2)))] [] (zk I)) (fun v m1 => zr X 188 594 [.ref 0, .ref 1, .ref 160, .int v3] (v.toList ++ [.int s0]) m1) :=
  (zr_aload_n t188_580 rfl).trans <|
    (zr_aload_n t188_581 rfl).trans <|
    (zr_iload_n t188_582 rfl).trans <|
    (zr_iconst t188_583 zci_1).trans <|
    (zr_iadd t188_584).trans <|
    (zr_sld (j := zx (v3 + 1)) t188_585 rfl q1).trans <|
    (zr_aload_n t188_586 rfl).trans <|
    (zr_iload_n t188_587 rfl).trans <|
    (zr_iconst t188_588 zci_2).trans <|
    (zr_iadd t188_589).trans <|
    (zr_sld (j := zx (v3 + 2)) t188_590 rfl q2).trans <|
    zr_callv t188_591 rfl rfl rfl rfl
theorem k188_594 {X : Nat × (Nat → Int32)} {I : Nat → Nat → Int32} {v3 : Int32} {s0 : Int32} {s1 : Int32}  : zr X 188 594 [.ref 0, .ref 1, .ref 160, .int v3] [.int s1, .int s0] (zk I) = if s0 = s1 then zr X 188 793 [.ref 0, .ref 1, .ref 160, .int v3] [] (zk I) else zr X 188 597 [.ref 0, .ref 1, .ref 160, .int v3] [] (zk I) :=
  zr_ic_eq (tgt := 793) t188_594 rfl
theorem k188_597 {X : Nat × (Nat → Int32)} {I : Nat → Nat → Int32} {v3 : Int32}  : zr X 188 597 [.ref 0, .ref 1, .ref 160, .int v3] [] (zk I) = some (some (.int 0), zk I) :=
  (zr_iconst t188_597 zci_0).trans <|
    zr_zret t188_598 rfl (Or.inl rfl)
theorem k188_599 {X : Nat × (Nat → Int32)} {I : Nat → Nat → Int32} {v3 : Int32} (q1 : zin (v3 + 1) X.1 = true) (q2 : zin (v3 + 2) X.1 = true) : zr X 188 599 [.ref 0, .ref 1, .ref 160, .int v3] [] (zk I) = zcb (zr X 105 0 [.ref 1, .int (X.2 (zx (v3 + 1))), .int (X.2 (zx (v3 + 2)))] [] (zk I)) (fun v m1 => zr X 188 613 [.ref 0, .ref 1, .ref 160, .int v3] (v.toList ++ []) m1) :=
  (zr_aload_n t188_599 rfl).trans <|
    (zr_aload_n t188_600 rfl).trans <|
    (zr_iload_n t188_601 rfl).trans <|
    (zr_iconst t188_602 zci_1).trans <|
    (zr_iadd t188_603).trans <|
    (zr_sld (j := zx (v3 + 1)) t188_604 rfl q1).trans <|
    (zr_aload_n t188_605 rfl).trans <|
    (zr_iload_n t188_606 rfl).trans <|
    (zr_iconst t188_607 zci_2).trans <|
    (zr_iadd t188_608).trans <|
    (zr_sld (j := zx (v3 + 2)) t188_609 rfl q2).trans <|
    zr_callv t188_610 rfl rfl rfl rfl
theorem k188_613 {X : Nat × (Nat → Int32)} {I : Nat → Nat → Int32} {v3 : Int32} {s0 : Int32} (q1 : zin (v3 + 1) X.1 = true) (q2 : zin (v3 + 2) X.1 = true) : zr X 188 613 [.ref 0, .ref 1, .ref 160, .int v3] [.int s0] (zk I) = zcb (zr X 170 0 [.ref 160, .int (X.2 (zx (v3 + 1))), .int (X.2 (zx (v3 + 2)))] [] (zk I)) (fun v m1 => zr X 188 627 [.ref 0, .ref 1, .ref 160, .int v3] (v.toList ++ [.int s0]) m1) :=
  (zr_aload_n t188_613 rfl).trans <|
    (zr_aload_n t188_614 rfl).trans <|
    (zr_iload_n t188_615 rfl).trans <|
    (zr_iconst t188_616 zci_1).trans <|
    (zr_iadd t188_617).trans <|
    (zr_sld (j := zx (v3 + 1)) t188_618 rfl q1).trans <|
    (zr_aload_n t188_619 rfl).trans <|
    (zr_iload_n t188_620 rfl).trans <|
    (zr_iconst t188_621 zci_2).trans <|
    (zr_iadd t188_622).trans <|
    (zr_sld (j := zx (v3 + 2)) t188_623 rfl q2).trans <|
    zr_callv t188_624 rfl rfl rfl rfl
theorem k188_627 {X : Nat × (Nat → Int32)} {I : Nat → Nat → Int32} {v3 : Int32} {s0 : Int32} {s1 : Int32}  : zr X 188 627 [.ref 0, .ref 1, .ref 160, .int v3] [.int s1, .int s0] (zk I) = if s0 = s1 then zr X 188 793 [.ref 0, .ref 1, .ref 160, .int v3] [] (zk I) else zr X 188 630 [.ref 0, .ref 1, .ref 160, .int v3] [] (zk I) :=
  zr_ic_eq (tgt := 793) t188_627 rfl
theorem k188_630 {X : Nat × (Nat → Int32)} {I : Nat → Nat → Int32} {v3 : Int32}  : zr X 188 630 [.ref 0, .ref 1, .ref 160, .int v3] [] (zk I) = some (some (.int 0), zk I) :=
  (zr_iconst t188_630 zci_0).trans <|
    zr_zret t188_631 rfl (Or.inl rfl)
theorem k188_632 {X : Nat × (Nat → Int32)} {I : Nat → Nat → Int32} {v3 : Int32} (q1 : zin (v3 + 1) X.1 = true) : zr X 188 632 [.ref 0, .ref 1, .ref 160, .int v3] [] (zk I) = zcb (zr X 106 0 [.ref 1, .int (X.2 (zx (v3 + 1))), .null] [] (zk I)) (fun v m1 => zr X 188 641 [.ref 0, .ref 1, .ref 160, .int v3] (v.toList ++ []) m1) :=
  (zr_aload_n t188_632 rfl).trans <|
    (zr_aload_n t188_633 rfl).trans <|
    (zr_iload_n t188_634 rfl).trans <|
    (zr_iconst t188_635 zci_1).trans <|
    (zr_iadd t188_636).trans <|
    (zr_sld (j := zx (v3 + 1)) t188_637 rfl q1).trans <|
    zr_callv t188_638 rfl rfl rfl rfl
theorem k188_641 {X : Nat × (Nat → Int32)} {I : Nat → Nat → Int32} {v3 : Int32} {s0 : Int32} (q1 : zin (v3 + 1) X.1 = true) : zr X 188 641 [.ref 0, .ref 1, .ref 160, .int v3] [.int s0] (zk I) = zcb (zr X 171 0 [.ref 160, .int (X.2 (zx (v3 + 1))), .null, .null] [] (zk I)) (fun v m1 => zr X 188 650 [.ref 0, .ref 1, .ref 160, .int v3] (v.toList ++ [.int s0]) m1) :=
  (zr_aload_n t188_641 rfl).trans <|
    (zr_aload_n t188_642 rfl).trans <|
    (zr_iload_n t188_643 rfl).trans <|
    (zr_iconst t188_644 zci_1).trans <|
    (zr_iadd t188_645).trans <|
    (zr_sld (j := zx (v3 + 1)) t188_646 rfl q1).trans <|
    zr_callv t188_647 rfl rfl rfl rfl
theorem k188_650 {X : Nat × (Nat → Int32)} {I : Nat → Nat → Int32} {v3 : Int32} {s0 : Int32} {s1 : Int32}  : zr X 188 650 [.ref 0, .ref 1, .ref 160, .int v3] [.int s1, .int s0] (zk I) = if s0 = s1 then zr X 188 793 [.ref 0, .ref 1, .ref 160, .int v3] [] (zk I) else zr X 188 653 [.ref 0, .ref 1, .ref 160, .int v3] [] (zk I) :=
  zr_ic_eq (tgt := 793) t188_650 rfl
theorem k188_653 {X : Nat × (Nat → Int32)} {I : Nat → Nat → Int32} {v3 : Int32}  : zr X 188 653 [.ref 0, .ref 1, .ref 160, .int v3] [] (zk I) = some (some (.int 0), zk I) :=
  (zr_iconst t188_653 zci_0).trans <|
    zr_zret t188_654 rfl (Or.inl rfl)
theorem k188_655 {X : Nat × (Nat → Int32)} {I : Nat → Nat → Int32} {v3 : Int32} (q1 : zin (v3 + 1) X.1 = true) (q2 : zin (v3 + 2) X.1 = true) : zr X 188 655 [.ref 0, .ref 1, .ref 160, .int v3] [] (zk I) = zcb (zr X 107 0 [.ref 1, .long ((((X.2 (zx (v3 + 1))).toInt64) <<< ((32 : Int32).toInt64 &&& 63)) ||| (((X.2 (zx (v3 + 2))).toInt64) &&& 4294967295)), .null, .null] [] (zk I)) (fun v m1 => zr X 188 679 [.ref 0, .ref 1, .ref 160, .int v3] (v.toList ++ []) m1) :=
  (zr_aload_n t188_655 rfl).trans <|
    (zr_aload_n t188_656 rfl).trans <|
    (zr_iload_n t188_657 rfl).trans <|
    (zr_iconst t188_658 zci_1).trans <|
    (zr_iadd t188_659).trans <|
    (zr_sld (j := zx (v3 + 1)) t188_660 rfl q1).trans <|
    (zr_i2l t188_661).trans <|
    (zr_bipush t188_662 zcb_32).trans <|
    (zr_lshl t188_664).trans <|
    (zr_aload_n t188_665 rfl).trans <|
    (zr_iload_n t188_666 rfl).trans <|
    (zr_iconst t188_667 zci_2).trans <|
    (zr_iadd t188_668).trans <|
    (zr_sld (j := zx (v3 + 2)) t188_669 rfl q2).trans <|
    (zr_i2l t188_670).trans <|
    (zr_ldc2 t188_671 (x := 4294967295) (by decide)).trans <|
    (zr_land t188_674).trans <|
    (zr_lor t188_675).trans <|
    zr_callv t188_676 rfl rfl rfl rfl
theorem k188_679 {X : Nat × (Nat → Int32)} {I : Nat → Nat → Int32} {v3 : Int32} {s0 : Int32} (q1 : zin (v3 + 1) X.1 = true) (q2 : zin (v3 + 2) X.1 = true) : zr X 188 679 [.ref 0, .ref 1, .ref 160, .int v3] [.int s0] (zk I) = zcb (zr X 172 0 [.ref 160, .long ((((X.2 (zx (v3 + 1))).toInt64) <<< ((32 : Int32).toInt64 &&& 63)) ||| (((X.2 (zx (v3 + 2))).toInt64) &&& 4294967295)), .null, .null, .null, .null, .null, .null] [] (zk I)) (fun v m1 => zr X 188 703 [.ref 0, .ref 1, .ref 160, .int v3] (v.toList ++ [.int s0]) m1) :=
  (zr_aload_n t188_679 rfl).trans <|
    (zr_aload_n t188_680 rfl).trans <|
    (zr_iload_n t188_681 rfl).trans <|
    (zr_iconst t188_682 zci_1).trans <|
    (zr_iadd t188_683).trans <|
    (zr_sld (j := zx (v3 + 1)) t188_684 rfl q1).trans <|
    (zr_i2l t188_685).trans <|
    (zr_bipush t188_686 zcb_32).trans <|
    (zr_lshl t188_688).trans <|
    (zr_aload_n t188_689 rfl).trans <|
    (zr_iload_n t188_690 rfl).trans <|
    (zr_iconst t188_691 zci_2).trans <|
    (zr_iadd t188_692).trans <|
    (zr_sld (j := zx (v3 + 2)) t188_693 rfl q2).trans <|
    (zr_i2l t188_694).trans <|
    (zr_ldc2 t188_695 (x := 4294967295) (by decide)).trans <|
    (zr_land t188_698).trans <|
    (zr_lor t188_699).trans <|
    zr_callv t188_700 rfl rfl rfl rfl
theorem k188_703 {X : Nat × (Nat → Int32)} {I : Nat → Nat → Int32} {v3 : Int32} {s0 : Int32} {s1 : Int32}  : zr X 188 703 [.ref 0, .ref 1, .ref 160, .int v3] [.int s1, .int s0] (zk I) = if s0 = s1 then zr X 188 793 [.ref 0, .ref 1, .ref 160, .int v3] [] (zk I) else zr X 188 706 [.ref 0, .ref 1, .ref 160, .int v3] [] (zk I) :=
  zr_ic_eq (tgt := 793) t188_703 rfl
theorem k188_706 {X : Nat × (Nat → Int32)} {I : Nat → Nat → Int32} {v3 : Int32}  : zr X 188 706 [.ref 0, .ref 1, .ref 160, .int v3] [] (zk I) = some (some (.int 0), zk I) :=
  (zr_iconst t188_706 zci_0).trans <|
    zr_zret t188_707 rfl (Or.inl rfl)
theorem k188_708 {X : Nat × (Nat → Int32)} {I : Nat → Nat → Int32} {v3 : Int32}  : zr X 188 708 [.ref 0, .ref 1, .ref 160, .int v3] [] (zk I) = zcb (zr X 108 0 [.ref 1, .null] [] (zk I)) (fun v m1 => zr X 188 712 [.ref 0, .ref 1, .ref 160, .int v3] (v.toList ++ []) m1) :=
  (zr_aload_n t188_708 rfl).trans <|
    zr_callv t188_709 rfl rfl rfl rfl
theorem k188_712 {X : Nat × (Nat → Int32)} {I : Nat → Nat → Int32} {v3 : Int32} {s0 : Int32}  : zr X 188 712 [.ref 0, .ref 1, .ref 160, .int v3] [.int s0] (zk I) = zcb (zr X 173 0 [.ref 160, .null] [] (zk I)) (fun v m1 => zr X 188 716 [.ref 0, .ref 1, .ref 160, .int v3] (v.toList ++ [.int s0]) m1) :=
  (zr_aload_n t188_712 rfl).trans <|
    zr_callv t188_713 rfl rfl rfl rfl
theorem k188_716 {X : Nat × (Nat → Int32)} {I : Nat → Nat → Int32} {v3 : Int32} {s0 : Int32} {s1 : Int32}  : zr X 188 716 [.ref 0, .ref 1, .ref 160, .int v3] [.int s1, .int s0] (zk I) = if s0 = s1 then zr X 188 793 [.ref 0, .ref 1, .ref 160, .int v3] [] (zk I) else zr X 188 719 [.ref 0, .ref 1, .ref 160, .int v3] [] (zk I) :=
  zr_ic_eq (tgt := 793) t188_716 rfl
theorem k188_719 {X : Nat × (Nat → Int32)} {I : Nat → Nat → Int32} {v3 : Int32}  : zr X 188 719 [.ref 0, .ref 1, .ref 160, .int v3] [] (zk I) = some (some (.int 0), zk I) :=
  (zr_iconst t188_719 zci_0).trans <|
    zr_zret t188_720 rfl (Or.inl rfl)
theorem k188_721 {X : Nat × (Nat → Int32)} {I : Nat → Nat → Int32} {v3 : Int32}  : zr X 188 721 [.ref 0, .ref 1, .ref 160, .int v3] [] (zk I) = zcb (zr X 109 0 [.ref 1] [] (zk I)) (fun v m1 => zr X 188 725 [.ref 0, .ref 1, .ref 160, .int v3] (v.toList ++ []) m1) :=
  (zr_aload_n t188_721 rfl).trans <|
    zr_callv t188_722 rfl rfl rfl rfl
theorem k188_725 {X : Nat × (Nat → Int32)} {I : Nat → Nat → Int32} {v3 : Int32} {s0 : Int32}  : zr X 188 725 [.ref 0, .ref 1, .ref 160, .int v3] [.int s0] (zk I) = zcb (zr X 181 0 [.ref 160] [] (zk I)) (fun v m1 => zr X 188 729 [.ref 0, .ref 1, .ref 160, .int v3] (v.toList ++ [.int s0]) m1) :=
  (zr_aload_n t188_725 rfl).trans <|
    zr_callv t188_726 rfl rfl rfl rfl
theorem k188_729 {X : Nat × (Nat → Int32)} {I : Nat → Nat → Int32} {v3 : Int32} {s0 : Int32} {s1 : Int32}  : zr X 188 729 [.ref 0, .ref 1, .ref 160, .int v3] [.int s1, .int s0] (zk I) = if s0 = s1 then zr X 188 793 [.ref 0, .ref 1, .ref 160, .int v3] [] (zk I) else zr X 188 732 [.ref 0, .ref 1, .ref 160, .int v3] [] (zk I) :=
  zr_ic_eq (tgt := 793) t188_729 rfl
theorem k188_732 {X : Nat × (Nat → Int32)} {I : Nat → Nat → Int32} {v3 : Int32}  : zr X 188 732 [.ref 0, .ref 1, .ref 160, .int v3] [] (zk I) = some (some (.int 0), zk I) :=
  (zr_iconst t188_732 zci_0).trans <|
    zr_zret t188_733 rfl (Or.inl rfl)
theorem k188_734 {X : Nat × (Nat → Int32)} {I : Nat → Nat → Int32} {v3 : Int32}  : zr X 188 734 [.ref 0, .ref 1, .ref 160, .int v3] [] (zk I) = zcb (zr X 110 0 [.ref 1] [] (zk I)) (fun v m1 => zr X 188 738 [.ref 0, .ref 1, .ref 160, .int v3] (v.toList ++ []) m1) :=
  (zr_aload_n t188_734 rfl).trans <|
    zr_callv t188_735 rfl rfl rfl rfl
theorem k188_738 {X : Nat × (Nat → Int32)} {I : Nat → Nat → Int32} {v3 : Int32} {s0 : Int32}  : zr X 188 738 [.ref 0, .ref 1, .ref 160, .int v3] [.int s0] (zk I) = zcb (zr X 182 0 [.ref 160, .null] [] (zk I)) (fun v m1 => zr X 188 742 [.ref 0, .ref 1, .ref 160, .int v3] (v.toList ++ [.int s0]) m1) :=
  (zr_aload_n t188_738 rfl).trans <|
    zr_callv t188_739 rfl rfl rfl rfl
theorem k188_742 {X : Nat × (Nat → Int32)} {I : Nat → Nat → Int32} {v3 : Int32} {s0 : Int32} {s1 : Int32}  : zr X 188 742 [.ref 0, .ref 1, .ref 160, .int v3] [.int s1, .int s0] (zk I) = if s0 = s1 then zr X 188 793 [.ref 0, .ref 1, .ref 160, .int v3] [] (zk I) else zr X 188 745 [.ref 0, .ref 1, .ref 160, .int v3] [] (zk I) :=
  zr_ic_eq (tgt := 793) t188_742 rfl
theorem k188_745 {X : Nat × (Nat → Int32)} {I : Nat → Nat → Int32} {v3 : Int32}  : zr X 188 745 [.ref 0, .ref 1, .ref 160, .int v3] [] (zk I) = some (some (.int 0), zk I) :=
  (zr_iconst t188_745 zci_0).trans <|
    zr_zret t188_746 rfl (Or.inl rfl)
theorem k188_747 {X : Nat × (Nat → Int32)} {I : Nat → Nat → Int32} {v3 : Int32} (q1 : zin (v3 + 1) X.1 = true) : zr X 188 747 [.ref 0, .ref 1, .ref 160, .int v3] [] (zk I) = zcb (zr X 111 0 [.ref 1, .int (X.2 (zx (v3 + 1)))] [] (zk I)) (fun v m1 => zr X 188 756 [.ref 0, .ref 1, .ref 160, .int v3] (v.toList ++ []) m1) :=
  (zr_aload_n t188_747 rfl).trans <|
    (zr_aload_n t188_748 rfl).trans <|
    (zr_iload_n t188_749 rfl).trans <|
    (zr_iconst t188_750 zci_1).trans <|
    (zr_iadd t188_751).trans <|
    (zr_sld (j := zx (v3 + 1)) t188_752 rfl q1).trans <|
    zr_callv t188_753 rfl rfl rfl rfl
theorem k188_756 {X : Nat × (Nat → Int32)} {I : Nat → Nat → Int32} {v3 : Int32} {s0 : Int32} (q1 : zin (v3 + 1) X.1 = true) : zr X 188 756 [.ref 0, .ref 1, .ref 160, .int v3] [.int s0] (zk I) = zcb (zr X 183 0 [.ref 160, .int (X.2 (zx (v3 + 1))), .null] [] (zk I)) (fun v m1 => zr X 188 765 [.ref 0, .ref 1, .ref 160, .int v3] (v.toList ++ [.int s0]) m1) :=
  (zr_aload_n t188_756 rfl).trans <|
    (zr_aload_n t188_757 rfl).trans <|
    (zr_iload_n t188_758 rfl).trans <|
    (zr_iconst t188_759 zci_1).trans <|
    (zr_iadd t188_760).trans <|
    (zr_sld (j := zx (v3 + 1)) t188_761 rfl q1).trans <|
    zr_callv t188_762 rfl rfl rfl rfl
theorem k188_765 {X : Nat × (Nat → Int32)} {I : Nat → Nat → Int32} {v3 : Int32} {s0 : Int32} {s1 : Int32}  : zr X 188 765 [.ref 0, .ref 1, .ref 160, .int v3] [.int s1, .int s0] (zk I) = if s0 = s1 then zr X 188 793 [.ref 0, .ref 1, .ref 160, .int v3] [] (zk I) else zr X 188 768 [.ref 0, .ref 1, .ref 160, .int v3] [] (zk I) :=
  zr_ic_eq (tgt := 793) t188_765 rfl
theorem k188_768 {X : Nat × (Nat → Int32)} {I : Nat → Nat → Int32} {v3 : Int32}  : zr X 188 768 [.ref 0, .ref 1, .ref 160, .int v3] [] (zk I) = some (some (.int 0), zk I) :=
  (zr_iconst t188_768 zci_0).trans <|
    zr_zret t188_769 rfl (Or.inl rfl)
theorem k188_770 {X : Nat × (Nat → Int32)} {I : Nat → Nat → Int32} {v3 : Int32} (q1 : zin (v3 + 1) X.1 = true) : zr X 188 770 [.ref 0, .ref 1, .ref 160, .int v3] [] (zk I) = zcb (zr X 112 0 [.ref 1, .int (X.2 (zx (v3 + 1)))] [] (zk I)) (fun v m1 => zr X 188 779 [.ref 0, .ref 1, .ref 160, .int v3] (v.toList ++ []) m1) :=
  (zr_aload_n t188_770 rfl).trans <|
    (zr_aload_n t188_771 rfl).trans <|
    (zr_iload_n t188_772 rfl).trans <|
    (zr_iconst t188_773 zci_1).trans <|
    (zr_iadd t188_774).trans <|
    (zr_sld (j := zx (v3 + 1)) t188_775 rfl q1).trans <|
    zr_callv t188_776 rfl rfl rfl rfl
theorem k188_779 {X : Nat × (Nat → Int32)} {I : Nat → Nat → Int32} {v3 : Int32} {s0 : Int32} (q1 : zin (v3 + 1) X.1 = true) : zr X 188 779 [.ref 0, .ref 1, .ref 160, .int v3] [.int s0] (zk I) = zcb (zr X 184 0 [.ref 160, .int (X.2 (zx (v3 + 1))), .null] [] (zk I)) (fun v m1 => zr X 188 788 [.ref 0, .ref 1, .ref 160, .int v3] (v.toList ++ [.int s0]) m1) :=
  (zr_aload_n t188_779 rfl).trans <|
    (zr_aload_n t188_780 rfl).trans <|
    (zr_iload_n t188_781 rfl).trans <|
    (zr_iconst t188_782 zci_1).trans <|
    (zr_iadd t188_783).trans <|
    (zr_sld (j := zx (v3 + 1)) t188_784 rfl q1).trans <|
    zr_callv t188_785 rfl rfl rfl rfl
theorem k188_788 {X : Nat × (Nat → Int32)} {I : Nat → Nat → Int32} {v3 : Int32} {s0 : Int32} {s1 : Int32}  : zr X 188 788 [.ref 0, .ref 1, .ref 160, .int v3] [.int s1, .int s0] (zk I) = if s0 = s1 then zr X 188 793 [.ref 0, .ref 1, .ref 160, .int v3] [] (zk I) else zr X 188 791 [.ref 0, .ref 1, .ref 160, .int v3] [] (zk I) :=
  zr_ic_eq (tgt := 793) t188_788 rfl
theorem k188_791 {X : Nat × (Nat → Int32)} {I : Nat → Nat → Int32} {v3 : Int32}  : zr X 188 791 [.ref 0, .ref 1, .ref 160, .int v3] [] (zk I) = some (some (.int 0), zk I) :=
  (zr_iconst t188_791 zci_0).trans <|
    zr_zret t188_792 rfl (Or.inl rfl)
theorem k188_793 {X : Nat × (Nat → Int32)} {I : Nat → Nat → Int32} {v3 : Int32}  : zr X 188 793 [.ref 0, .ref 1, .ref 160, .int v3] [] (zk I) = zr X 188 18 [.ref 0, .ref 1, .ref 160, .int (v3 + 4)] [] (zk I) :=
  (zr_iinc t188_793 rfl rfl (congrArg (fun z => v3 + z) zci_4) rfl).trans <|
    zr_goto (tgt := 18) t188_796 rfl
theorem k188_799 {X : Nat × (Nat → Int32)} {I : Nat → Nat → Int32} {v3 : Int32}  : zr X 188 799 [.ref 0, .ref 1, .ref 160, .int v3] [] (zk I) = some (some (.int 1), zk I) :=
  (zr_iconst t188_799 zci_1).trans <|
    zr_zret t188_800 rfl (Or.inr rfl)
