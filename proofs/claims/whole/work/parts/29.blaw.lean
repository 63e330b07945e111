set_option maxRecDepth 20000 in
theorem t187_18 : zT 187 18 = some (.iload_n 3, 1, 0, 0, 0) := by rfl
set_option maxRecDepth 20000 in
theorem t187_19 : zT 187 19 = some (.aload_n 0, 1, 0, 0, 0) := by rfl
set_option maxRecDepth 20000 in
theorem t187_20 : zT 187 20 = some (.arraylength, 1, 0, 0, 0) := by rfl
set_option maxRecDepth 20000 in
theorem t187_21 : zT 187 21 = some (.iconst 4, 1, 0, 0, 0) := by rfl
set_option maxRecDepth 20000 in
theorem t187_22 : zT 187 22 = some (.isub, 1, 0, 0, 0) := by rfl
set_option maxRecDepth 20000 in
theorem t187_23 : zT 187 23 = some (.if_icmp .gt 776, 3, 0, 0, 0) := by rfl
set_option maxRecDepth 20000 in
theorem t187_26 : zT 187 26 = some (.aload_n 0, 1, 0, 0, 0) := by rfl
set_option maxRecDepth 20000 in
theorem t187_27 : zT 187 27 = some (.iload_n 3, 1, 0, 0, 0) := by rfl
set_option maxRecDepth 20000 in
theorem t187_28 : zT 187 28 = some (.iaload, 1, 0, 0, 0) := by rfl
set_option maxRecDepth 20000 in
theorem t187_29 : zT 187 29 = some (.bipush 31, 2, 0, 0, 0) := by rfl
set_option maxRecDepth 20000 in
theorem t187_31 : zT 187 31 = some (.iand, 1, 0, 0, 0) := by rfl
set_option maxRecDepth 20000 in
theorem t187_32 : zT 187 32 = some (.tableswitch 761 0 24 #[116, 129, 162, 175, 218, 241, 264, 287, 300, 313, 346, 379, 412, 445, 478, 501, 534, 567, 600, 623, 676, 689, 702, 715, 738], 116, 0, 0, 0) := by rfl
set_option maxRecDepth 20000 in
theorem t187_148 : zT 187 148 = some (.aload_n 1, 1, 0, 0, 0) := by rfl
set_option maxRecDepth 20000 in
theorem t187_149 : zT 187 149 = some (.invokevirtual 13, 3, 88, 0, 317) := by rfl
set_option maxRecDepth 20000 in
theorem t187_152 : zT 187 152 = some (.aload_n 2, 1, 0, 0, 0) := by rfl
set_option maxRecDepth 20000 in
theorem t187_153 : zT 187 153 = some (.invokevirtual 17, 3, 136, 0, 838) := by rfl
set_option maxRecDepth 20000 in
theorem t187_156 : zT 187 156 = some (.if_icmp .eq 637, 3, 0, 0, 0) := by rfl
set_option maxRecDepth 20000 in
theorem t187_159 : zT 187 159 = some (.iconst 0, 1, 0, 0, 0) := by rfl
set_option maxRecDepth 20000 in
theorem t187_160 : zT 187 160 = some (.ireturn, 1, 0, 0, 0) := by rfl
set_option maxRecDepth 20000 in
theorem t187_161 : zT 187 161 = some (.aload_n 1, 1, 0, 0, 0) := by rfl
set_option maxRecDepth 20000 in
theorem t187_162 : zT 187 162 = some (.aload_n 0, 1, 0, 0, 0) := by rfl
set_option maxRecDepth 20000 in
theorem t187_163 : zT 187 163 = some (.iload_n 3, 1, 0, 0, 0) := by rfl
set_option maxRecDepth 20000 in
theorem t187_164 : zT 187 164 = some (.iconst 1, 1, 0, 0, 0) := by rfl
set_option maxRecDepth 20000 in
theorem t187_165 : zT 187 165 = some (.iadd, 1, 0, 0, 0) := by rfl
set_option maxRecDepth 20000 in
theorem t187_166 : zT 187 166 = some (.iaload, 1, 0, 0, 0) := by rfl
set_option maxRecDepth 20000 in
theorem t187_167 : zT 187 167 = some (.aload_n 0, 1, 0, 0, 0) := by rfl
set_option maxRecDepth 20000 in
theorem t187_168 : zT 187 168 = some (.iload_n 3, 1, 0, 0, 0) := by rfl
set_option maxRecDepth 20000 in
theorem t187_169 : zT 187 169 = some (.iconst 2, 1, 0, 0, 0) := by rfl
set_option maxRecDepth 20000 in
theorem t187_170 : zT 187 170 = some (.iadd, 1, 0, 0, 0) := by rfl
set_option maxRecDepth 20000 in
theorem t187_171 : zT 187 171 = some (.iaload, 1, 0, 0, 0) := by rfl
set_option maxRecDepth 20000 in
theorem t187_172 : zT 187 172 = some (.invokevirtual 18, 3, 89, 0, 387) := by rfl
set_option maxRecDepth 20000 in
theorem t187_175 : zT 187 175 = some (.aload_n 2, 1, 0, 0, 0) := by rfl
set_option maxRecDepth 20000 in
theorem t187_176 : zT 187 176 = some (.aload_n 0, 1, 0, 0, 0) := by rfl
set_option maxRecDepth 20000 in
theorem t187_177 : zT 187 177 = some (.iload_n 3, 1, 0, 0, 0) := by rfl
set_option maxRecDepth 20000 in
theorem t187_178 : zT 187 178 = some (.iconst 1, 1, 0, 0, 0) := by rfl
set_option maxRecDepth 20000 in
theorem t187_179 : zT 187 179 = some (.iadd, 1, 0, 0, 0) := by rfl
set_option maxRecDepth 20000 in
theorem t187_180 : zT 187 180 = some (.iaload, 1, 0, 0, 0) := by rfl
set_option maxRecDepth 20000 in
theorem t187_181 : zT 187 181 = some (.aload_n 0, 1, 0, 0, 0) := by rfl
set_option maxRecDepth 20000 in
theorem t187_182 : zT 187 182 = some (.iload_n 3, 1, 0, 0, 0) := by rfl
set_option maxRecDepth 20000 in
theorem t187_183 : zT 187 183 = some (.iconst 2, 1, 0, 0, 0) := by rfl
set_option maxRecDepth 20000 in
theorem t187_184 : zT 187 184 = some (.iadd, 1, 0, 0, 0) := by rfl
set_option maxRecDepth 20000 in
theorem t187_185 : zT 187 185 = some (.iaload, 1, 0, 0, 0) := by rfl
set_option maxRecDepth 20000 in
theorem t187_186 : zT 187 186 = some (.invokevirtual 22, 3, 137, 0, 849) := by rfl
set_option maxRecDepth 20000 in
theorem t187_189 : zT 187 189 = some (.if_icmp .eq 604, 3, 0, 0, 0) := by rfl
set_option maxRecDepth 20000 in
theorem t187_192 : zT 187 192 = some (.iconst 0, 1, 0, 0, 0) := by rfl
set_option maxRecDepth 20000 in
theorem t187_193 : zT 187 193 = some (.ireturn, 1, 0, 0, 0) := by rfl
set_option maxRecDepth 20000 in
theorem t187_194 : zT 187 194 = some (.aload_n 1, 1, 0, 0, 0) := by rfl
set_option maxRecDepth 20000 in
theorem t187_195 : zT 187 195 = some (.invokevirtual 23, 3, 90, 0, 394) := by rfl
set_option maxRecDepth 20000 in
theorem t187_198 : zT 187 198 = some (.aload_n 2, 1, 0, 0, 0) := by rfl
set_option maxRecDepth 20000 in
theorem t187_199 : zT 187 199 = some (.invokevirtual 26, 3, 142, 0, 856) := by rfl
set_option maxRecDepth 20000 in
theorem t187_202 : zT 187 202 = some (.if_icmp .eq 591, 3, 0, 0, 0) := by rfl
set_option maxRecDepth 20000 in
theorem t187_205 : zT 187 205 = some (.iconst 0, 1, 0, 0, 0) := by rfl
set_option maxRecDepth 20000 in
theorem t187_206 : zT 187 206 = some (.ireturn, 1, 0, 0, 0) := by rfl
set_option maxRecDepth 20000 in
theorem t187_207 : zT 187 207 = some (.aload_n 1, 1, 0, 0, 0) := by rfl
set_option maxRecDepth 20000 in
theorem t187_208 : zT 187 208 = some (.aload_n 0, 1, 0, 0, 0) := by rfl
set_option maxRecDepth 20000 in
theorem t187_209 : zT 187 209 = some (.iload_n 3, 1, 0, 0, 0) := by rfl
set_option maxRecDepth 20000 in
theorem t187_210 : zT 187 210 = some (.iconst 1, 1, 0, 0, 0) := by rfl
set_option maxRecDepth 20000 in
theorem t187_211 : zT 187 211 = some (.iadd, 1, 0, 0, 0) := by rfl
set_option maxRecDepth 20000 in
theorem t187_212 : zT 187 212 = some (.iaload, 1, 0, 0, 0) := by rfl
set_option maxRecDepth 20000 in
theorem t187_213 : zT 187 213 = some (.aload_n 0, 1, 0, 0, 0) := by rfl
set_option maxRecDepth 20000 in
theorem t187_214 : zT 187 214 = some (.iload_n 3, 1, 0, 0, 0) := by rfl
set_option maxRecDepth 20000 in
theorem t187_215 : zT 187 215 = some (.iconst 2, 1, 0, 0, 0) := by rfl
set_option maxRecDepth 20000 in
theorem t187_216 : zT 187 216 = some (.iadd, 1, 0, 0, 0) := by rfl
set_option maxRecDepth 20000 in
theorem t187_217 : zT 187 217 = some (.iaload, 1, 0, 0, 0) := by rfl
set_option maxRecDepth 20000 in
theorem t187_218 : zT 187 218 = some (.aload_n 0, 1, 0, 0, 0) := by rfl
set_option maxRecDepth 20000 in
theorem t187_219 : zT 187 219 = some (.iload_n 3, 1, 0, 0, 0) := by rfl
set_option maxRecDepth 20000 in
theorem t187_220 : zT 187 220 = some (.iconst 3, 1, 0, 0, 0) := by rfl
set_option maxRecDepth 20000 in
theorem t187_221 : zT 187 221 = some (.iadd, 1, 0, 0, 0) := by rfl
set_option maxRecDepth 20000 in
theorem t187_222 : zT 187 222 = some (.iaload, 1, 0, 0, 0) := by rfl
set_option maxRecDepth 20000 in
theorem t187_223 : zT 187 223 = some (.invokevirtual 27, 3, 91, 0, 466) := by rfl
set_option maxRecDepth 20000 in
theorem t187_226 : zT 187 226 = some (.aload_n 2, 1, 0, 0, 0) := by rfl
set_option maxRecDepth 20000 in
theorem t187_227 : zT 187 227 = some (.aload_n 0, 1, 0, 0, 0) := by rfl
set_option maxRecDepth 20000 in
theorem t187_228 : zT 187 228 = some (.iload_n 3, 1, 0, 0, 0) := by rfl
set_option maxRecDepth 20000 in
theorem t187_229 : zT 187 229 = some (.iconst 1, 1, 0, 0, 0) := by rfl
set_option maxRecDepth 20000 in
theorem t187_230 : zT 187 230 = some (.iadd, 1, 0, 0, 0) := by rfl
set_option maxRecDepth 20000 in
theorem t187_231 : zT 187 231 = some (.iaload, 1, 0, 0, 0) := by rfl
set_option maxRecDepth 20000 in
theorem t187_232 : zT 187 232 = some (.aload_n 0, 1, 0, 0, 0) := by rfl
set_option maxRecDepth 20000 in
theorem t187_233 : zT 187 233 = some (.iload_n 3, 1, 0, 0, 0) := by rfl
set_option maxRecDepth 20000 in
theorem t187_234 : zT 187 234 = some (.iconst 2, 1, 0, 0, 0) := by rfl
set_option maxRecDepth 20000 in
theorem t187_235 : zT 187 235 = some (.iadd, 1, 0, 0, 0) := by rfl
set_option maxRecDepth 20000 in
theorem t187_236 : zT 187 236 = some (.iaload, 1, 0, 0, 0) := by rfl
set_option maxRecDepth 20000 in
theorem t187_237 : zT 187 237 = some (.aload_n 0, 1, 0, 0, 0) := by rfl
set_option maxRecDepth 20000 in
theorem t187_238 : zT 187 238 = some (.iload_n 3, 1, 0, 0, 0) := by rfl
set_option maxRecDepth 20000 in
theorem t187_239 : zT 187 239 = some (.iconst 3, 1, 0, 0, 0) := by rfl
set_option maxRecDepth 20000 in
theorem t187_240 : zT 187 240 = some (.iadd, 1, 0, 0, 0) := by rfl
set_option maxRecDepth 20000 in
theorem t187_241 : zT 187 241 = some (.iaload, 1, 0, 0, 0) := by rfl
set_option maxRecDepth 20000 in
theorem t187_242 : zT 187 242 = some (.invokevirtual 31, 3, 143, 0, 912) := by rfl
set_option maxRecDepth 20000 in
theorem t187_245 : zT 187 245 = some (.if_icmp .eq 548, 3, 0, 0, 0) := by rfl
set_option maxRecDepth 20000 in
theorem t187_248 : zT 187 248 = some (.iconst 0, 1, 0, 0, 0) := by rfl
set_option maxRecDepth 20000 in
theorem t187_249 : zT 187 249 = some (.ireturn, 1, 0, 0, 0) := by rfl
set_option maxRecDepth 20000 in
theorem t187_250 : zT 187 250 = some (.aload_n 1, 1, 0, 0, 0) := by rfl
set_option maxRecDepth 20000 in
theorem t187_251 : zT 187 251 = some (.aload_n 0, 1, 0, 0, 0) := by rfl
set_option maxRecDepth 20000 in
theorem t187_252 : zT 187 252 = some (.iload_n 3, 1, 0, 0, 0) := by rfl
set_option maxRecDepth 20000 in
theorem t187_253 : zT 187 253 = some (.iconst 1, 1, 0, 0, 0) := by rfl
set_option maxRecDepth 20000 in
theorem t187_254 : zT 187 254 = some (.iadd, 1, 0, 0, 0) := by rfl
set_option maxRecDepth 20000 in
theorem t187_255 : zT 187 255 = some (.iaload, 1, 0, 0, 0) := by rfl
set_option maxRecDepth 20000 in
theorem t187_256 : zT 187 256 = some (.invokevirtual 32, 3, 92, 0, 474) := by rfl
set_option maxRecDepth 20000 in
theorem t187_259 : zT 187 259 = some (.aload_n 2, 1, 0, 0, 0) := by rfl
set_option maxRecDepth 20000 in
theorem t187_260 : zT 187 260 = some (.aload_n 0, 1, 0, 0, 0) := by rfl
set_option maxRecDepth 20000 in
theorem t187_261 : zT 187 261 = some (.iload_n 3, 1, 0, 0, 0) := by rfl
set_option maxRecDepth 20000 in
theorem t187_262 : zT 187 262 = some (.iconst 1, 1, 0, 0, 0) := by rfl
set_option maxRecDepth 20000 in
theorem t187_263 : zT 187 263 = some (.iadd, 1, 0, 0, 0) := by rfl
set_option maxRecDepth 20000 in
theorem t187_264 : zT 187 264 = some (.iaload, 1, 0, 0, 0) := by rfl
set_option maxRecDepth 20000 in
theorem t187_265 : zT 187 265 = some (.invokevirtual 36, 3, 146, 0, 920) := by rfl
set_option maxRecDepth 20000 in
theorem t187_268 : zT 187 268 = some (.if_icmp .eq 525, 3, 0, 0, 0) := by rfl
set_option maxRecDepth 20000 in
theorem t187_271 : zT 187 271 = some (.iconst 0, 1, 0, 0, 0) := by rfl
set_option maxRecDepth 20000 in
theorem t187_272 : zT 187 272 = some (.ireturn, 1, 0, 0, 0) := by rfl
set_option maxRecDepth 20000 in
theorem t187_273 : zT 187 273 = some (.aload_n 1, 1, 0, 0, 0) := by rfl
set_option maxRecDepth 20000 in
theorem t187_274 : zT 187 274 = some (.aload_n 0, 1, 0, 0, 0) := by rfl
set_option maxRecDepth 20000 in
theorem t187_275 : zT 187 275 = some (.iload_n 3, 1, 0, 0, 0) := by rfl
set_option maxRecDepth 20000 in
theorem t187_276 : zT 187 276 = some (.iconst 1, 1, 0, 0, 0) := by rfl
set_option maxRecDepth 20000 in
theorem t187_277 : zT 187 277 = some (.iadd, 1, 0, 0, 0) := by rfl
set_option maxRecDepth 20000 in
theorem t187_278 : zT 187 278 = some (.iaload, 1, 0, 0, 0) := by rfl
set_option maxRecDepth 20000 in
theorem t187_279 : zT 187 279 = some (.invokevirtual 37, 3, 93, 0, 511) := by rfl
set_option maxRecDepth 20000 in
theorem t187_282 : zT 187 282 = some (.aload_n 2, 1, 0, 0, 0) := by rfl
set_option maxRecDepth 20000 in
theorem t187_283 : zT 187 283 = some (.aload_n 0, 1, 0, 0, 0) := by rfl
set_option maxRecDepth 20000 in
theorem t187_284 : zT 187 284 = some (.iload_n 3, 1, 0, 0, 0) := by rfl
set_option maxRecDepth 20000 in
theorem t187_285 : zT 187 285 = some (.iconst 1, 1, 0, 0, 0) := by rfl
set_option maxRecDepth 20000 in
theorem t187_286 : zT 187 286 = some (.iadd, 1, 0, 0, 0) := by rfl
set_option maxRecDepth 20000 in
theorem t187_287 : zT 187 287 = some (.iaload, 1, 0, 0, 0) := by rfl
set_option maxRecDepth 20000 in
theorem t187_288 : zT 187 288 = some (.invokevirtual 40, 3, 148, 0, 948) := by rfl
set_option maxRecDepth 20000 in
theorem t187_291 : zT 187 291 = some (.if_icmp .eq 502, 3, 0, 0, 0) := by rfl
set_option maxRecDepth 20000 in
theorem t187_294 : zT 187 294 = some (.iconst 0, 1, 0, 0, 0) := by rfl
set_option maxRecDepth 20000 in
theorem t187_295 : zT 187 295 = some (.ireturn, 1, 0, 0, 0) := by rfl
set_option maxRecDepth 20000 in
theorem t187_296 : zT 187 296 = some (.aload_n 1, 1, 0, 0, 0) := by rfl
set_option maxRecDepth 20000 in
theorem t187_297 : zT 187 297 = some (.aload_n 0, 1, 0, 0, 0) := by rfl
set_option maxRecDepth 20000 in
theorem t187_298 : zT 187 298 = some (.iload_n 3, 1, 0, 0, 0) := by rfl
set_option maxRecDepth 20000 in
theorem t187_299 : zT 187 299 = some (.iconst 1, 1, 0, 0, 0) := by rfl
set_option maxRecDepth 20000 in
theorem t187_300 : zT 187 300 = some (.iadd, 1, 0, 0, 0) := by rfl
set_option maxRecDepth 20000 in
theorem t187_301 : zT 187 301 = some (.iaload, 1, 0, 0, 0) := by rfl
set_option maxRecDepth 20000 in
theorem t187_302 : zT 187 302 = some (.invokevirtual 41, 3, 94, 0, 519) := by rfl
set_option maxRecDepth 20000 in
theorem t187_305 : zT 187 305 = some (.aload_n 2, 1, 0, 0, 0) := by rfl
set_option maxRecDepth 20000 in
theorem t187_306 : zT 187 306 = some (.aload_n 0, 1, 0, 0, 0) := by rfl
set_option maxRecDepth 20000 in
theorem t187_307 : zT 187 307 = some (.iload_n 3, 1, 0, 0, 0) := by rfl
set_option maxRecDepth 20000 in
theorem t187_308 : zT 187 308 = some (.iconst 1, 1, 0, 0, 0) := by rfl
set_option maxRecDepth 20000 in
theorem t187_309 : zT 187 309 = some (.iadd, 1, 0, 0, 0) := by rfl
set_option maxRecDepth 20000 in
theorem t187_310 : zT 187 310 = some (.iaload, 1, 0, 0, 0) := by rfl
set_option maxRecDepth 20000 in
theorem t187_311 : zT 187 311 = some (.invokevirtual 44, 3, 150, 0, 956) := by rfl
set_option maxRecDepth 20000 in
theorem t187_314 : zT 187 314 = some (.if_icmp .eq 479, 3, 0, 0, 0) := by rfl
set_option maxRecDepth 20000 in
theorem t187_317 : zT 187 317 = some (.iconst 0, 1, 0, 0, 0) := by rfl
set_option maxRecDepth 20000 in
theorem t187_318 : zT 187 318 = some (.ireturn, 1, 0, 0, 0) := by rfl
set_option maxRecDepth 20000 in
theorem t187_319 : zT 187 319 = some (.aload_n 1, 1, 0, 0, 0) := by rfl
set_option maxRecDepth 20000 in
theorem t187_320 : zT 187 320 = some (.invokevirtual 45, 3, 95, 0, 531) := by rfl
set_option maxRecDepth 20000 in
theorem t187_323 : zT 187 323 = some (.aload_n 2, 1, 0, 0, 0) := by rfl
set_option maxRecDepth 20000 in
theorem t187_324 : zT 187 324 = some (.invokevirtual 48, 3, 153, 0, 964) := by rfl
set_option maxRecDepth 20000 in
theorem t187_327 : zT 187 327 = some (.if_icmp .eq 466, 3, 0, 0, 0) := by rfl
set_option maxRecDepth 20000 in
theorem t187_330 : zT 187 330 = some (.iconst 0, 1, 0, 0, 0) := by rfl
set_option maxRecDepth 20000 in
theorem t187_331 : zT 187 331 = some (.ireturn, 1, 0, 0, 0) := by rfl
set_option maxRecDepth 20000 in
theorem t187_332 : zT 187 332 = some (.aload_n 1, 1, 0, 0, 0) := by rfl
set_option maxRecDepth 20000 in
theorem t187_333 : zT 187 333 = some (.invokevirtual 49, 3, 96, 0, 545) := by rfl
set_option maxRecDepth 20000 in
theorem t187_336 : zT 187 336 = some (.aload_n 2, 1, 0, 0, 0) := by rfl
set_option maxRecDepth 20000 in
theorem t187_337 : zT 187 337 = some (.invokevirtual 52, 3, 156, 0, 976) := by rfl
set_option maxRecDepth 20000 in
theorem t187_340 : zT 187 340 = some (.if_icmp .eq 453, 3, 0, 0, 0) := by rfl
set_option maxRecDepth 20000 in
theorem t187_343 : zT 187 343 = some (.iconst 0, 1, 0, 0, 0) := by rfl
set_option maxRecDepth 20000 in
theorem t187_344 : zT 187 344 = some (.ireturn, 1, 0, 0, 0) := by rfl
set_option maxRecDepth 20000 in
theorem t187_345 : zT 187 345 = some (.aload_n 1, 1, 0, 0, 0) := by rfl
set_option maxRecDepth 20000 in
theorem t187_346 : zT 187 346 = some (.aload_n 0, 1, 0, 0, 0) := by rfl
set_option maxRecDepth 20000 in
theorem t187_347 : zT 187 347 = some (.iload_n 3, 1, 0, 0, 0) := by rfl
set_option maxRecDepth 20000 in
theorem t187_348 : zT 187 348 = some (.iconst 1, 1, 0, 0, 0) := by rfl
set_option maxRecDepth 20000 in
theorem t187_349 : zT 187 349 = some (.iadd, 1, 0, 0, 0) := by rfl
set_option maxRecDepth 20000 in
theorem t187_350 : zT 187 350 = some (.iaload, 1, 0, 0, 0) := by rfl
set_option maxRecDepth 20000 in
theorem t187_351 : zT 187 351 = some (.aload_n 0, 1, 0, 0, 0) := by rfl
set_option maxRecDepth 20000 in
theorem t187_352 : zT 187 352 = some (.iload_n 3, 1, 0, 0, 0) := by rfl
set_option maxRecDepth 20000 in
theorem t187_353 : zT 187 353 = some (.iconst 2, 1, 0, 0, 0) := by rfl
set_option maxRecDepth 20000 in
theorem t187_354 : zT 187 354 = some (.iadd, 1, 0, 0, 0) := by rfl
set_option maxRecDepth 20000 in
theorem t187_355 : zT 187 355 = some (.iaload, 1, 0, 0, 0) := by rfl
set_option maxRecDepth 20000 in
theorem t187_356 : zT 187 356 = some (.invokevirtual 53, 3, 97, 0, 602) := by rfl
set_option maxRecDepth 20000 in
theorem t187_359 : zT 187 359 = some (.aload_n 2, 1, 0, 0, 0) := by rfl
set_option maxRecDepth 20000 in
theorem t187_360 : zT 187 360 = some (.aload_n 0, 1, 0, 0, 0) := by rfl
set_option maxRecDepth 20000 in
theorem t187_361 : zT 187 361 = some (.iload_n 3, 1, 0, 0, 0) := by rfl
set_option maxRecDepth 20000 in
theorem t187_362 : zT 187 362 = some (.iconst 1, 1, 0, 0, 0) := by rfl
set_option maxRecDepth 20000 in
theorem t187_363 : zT 187 363 = some (.iadd, 1, 0, 0, 0) := by rfl
set_option maxRecDepth 20000 in
theorem t187_364 : zT 187 364 = some (.iaload, 1, 0, 0, 0) := by rfl
set_option maxRecDepth 20000 in
theorem t187_365 : zT 187 365 = some (.aload_n 0, 1, 0, 0, 0) := by rfl
set_option maxRecDepth 20000 in
theorem t187_366 : zT 187 366 = some (.iload_n 3, 1, 0, 0, 0) := by rfl
set_option maxRecDepth 20000 in
theorem t187_367 : zT 187 367 = some (.iconst 2, 1, 0, 0, 0) := by rfl
set_option maxRecDepth 20000 in
theorem t187_368 : zT 187 368 = some (.iadd, 1, 0, 0, 0) := by rfl
set_option maxRecDepth 20000 in
theorem t187_369 : zT 187 369 = some (.iaload, 1, 0, 0, 0) := by rfl
set_option maxRecDepth 20000 in
theorem t187_370 : zT 187 370 = some (.invokevirtual 56, 3, 157, 0, 1008) := by rfl
set_option maxRecDepth 20000 in
theorem t187_373 : zT 187 373 = some (.if_icmp .eq 420, 3, 0, 0, 0) := by rfl
set_option maxRecDepth 20000 in
theorem t187_376 : zT 187 376 = some (.iconst 0, 1, 0, 0, 0) := by rfl
set_option maxRecDepth 20000 in
theorem t187_377 : zT 187 377 = some (.ireturn, 1, 0, 0, 0) := by rfl
set_option maxRecDepth 20000 in
theorem t187_378 : zT 187 378 = some (.aload_n 1, 1, 0, 0, 0) := by rfl
set_option maxRecDepth 20000 in
theorem t187_379 : zT 187 379 = some (.aload_n 0, 1, 0, 0, 0) := by rfl
set_option maxRecDepth 20000 in
theorem t187_380 : zT 187 380 = some (.iload_n 3, 1, 0, 0, 0) := by rfl
set_option maxRecDepth 20000 in
theorem t187_381 : zT 187 381 = some (.iconst 1, 1, 0, 0, 0) := by rfl
set_option maxRecDepth 20000 in
theorem t187_382 : zT 187 382 = some (.iadd, 1, 0, 0, 0) := by rfl
set_option maxRecDepth 20000 in
theorem t187_383 : zT 187 383 = some (.iaload, 1, 0, 0, 0) := by rfl
set_option maxRecDepth 20000 in
theorem t187_384 : zT 187 384 = some (.aload_n 0, 1, 0, 0, 0) := by rfl
set_option maxRecDepth 20000 in
theorem t187_385 : zT 187 385 = some (.iload_n 3, 1, 0, 0, 0) := by rfl
set_option maxRecDepth 20000 in
theorem t187_386 : zT 187 386 = some (.iconst 2, 1, 0, 0, 0) := by rfl
set_option maxRecDepth 20000 in
theorem t187_387 : zT 187 387 = some (.iadd, 1, 0, 0, 0) := by rfl
set_option maxRecDepth 20000 in
theorem t187_388 : zT 187 388 = some (.iaload, 1, 0, 0, 0) := by rfl
set_option maxRecDepth 20000 in
theorem t187_389 : zT 187 389 = some (.invokevirtual 57, 3, 98, 0, 611) := by rfl
set_option maxRecDepth 20000 in
theorem t187_392 : zT 187 392 = some (.aload_n 2, 1, 0, 0, 0) := by rfl
set_option maxRecDepth 20000 in
theorem t187_393 : zT 187 393 = some (.aload_n 0, 1, 0, 0, 0) := by rfl
set_option maxRecDepth 20000 in
theorem t187_394 : zT 187 394 = some (.iload_n 3, 1, 0, 0, 0) := by rfl
set_option maxRecDepth 20000 in
theorem t187_395 : zT 187 395 = some (.iconst 1, 1, 0, 0, 0) := by rfl
set_option maxRecDepth 20000 in
theorem t187_396 : zT 187 396 = some (.iadd, 1, 0, 0, 0) := by rfl
set_option maxRecDepth 20000 in
theorem t187_397 : zT 187 397 = some (.iaload, 1, 0, 0, 0) := by rfl
set_option maxRecDepth 20000 in
theorem t187_398 : zT 187 398 = some (.aload_n 0, 1, 0, 0, 0) := by rfl
set_option maxRecDepth 20000 in
theorem t187_399 : zT 187 399 = some (.iload_n 3, 1, 0, 0, 0) := by rfl
set_option maxRecDepth 20000 in
theorem t187_400 : zT 187 400 = some (.iconst 2, 1, 0, 0, 0) := by rfl
set_option maxRecDepth 20000 in
theorem t187_401 : zT 187 401 = some (.iadd, 1, 0, 0, 0) := by rfl
set_option maxRecDepth 20000 in
theorem t187_402 : zT 187 402 = some (.iaload, 1, 0, 0, 0) := by rfl
set_option maxRecDepth 20000 in
theorem t187_403 : zT 187 403 = some (.invokevirtual 60, 3, 158, 0, 1012) := by rfl
set_option maxRecDepth 20000 in
theorem t187_406 : zT 187 406 = some (.if_icmp .eq 387, 3, 0, 0, 0) := by rfl
set_option maxRecDepth 20000 in
theorem t187_409 : zT 187 409 = some (.iconst 0, 1, 0, 0, 0) := by rfl
set_option maxRecDepth 20000 in
theorem t187_410 : zT 187 410 = some (.ireturn, 1, 0, 0, 0) := by rfl
set_option maxRecDepth 20000 in
theorem t187_411 : zT 187 411 = some (.aload_n 1, 1, 0, 0, 0) := by rfl
set_option maxRecDepth 20000 in
theorem t187_412 : zT 187 412 = some (.aload_n 0, 1, 0, 0, 0) := by rfl
set_option maxRecDepth 20000 in
theorem t187_413 : zT 187 413 = some (.iload_n 3, 1, 0, 0, 0) := by rfl
set_option maxRecDepth 20000 in
theorem t187_414 : zT 187 414 = some (.iconst 1, 1, 0, 0, 0) := by rfl
set_option maxRecDepth 20000 in
theorem t187_415 : zT 187 415 = some (.iadd, 1, 0, 0, 0) := by rfl
set_option maxRecDepth 20000 in
theorem t187_416 : zT 187 416 = some (.iaload, 1, 0, 0, 0) := by rfl
set_option maxRecDepth 20000 in
theorem t187_417 : zT 187 417 = some (.aload_n 0, 1, 0, 0, 0) := by rfl
set_option maxRecDepth 20000 in
theorem t187_418 : zT 187 418 = some (.iload_n 3, 1, 0, 0, 0) := by rfl
set_option maxRecDepth 20000 in
theorem t187_419 : zT 187 419 = some (.iconst 2, 1, 0, 0, 0) := by rfl
set_option maxRecDepth 20000 in
theorem t187_420 : zT 187 420 = some (.iadd, 1, 0, 0, 0) := by rfl
set_option maxRecDepth 20000 in
theorem t187_421 : zT 187 421 = some (.iaload, 1, 0, 0, 0) := by rfl
set_option maxRecDepth 20000 in
theorem t187_422 : zT 187 422 = some (.invokevirtual 61, 3, 99, 0, 623) := by rfl
set_option maxRecDepth 20000 in
theorem t187_425 : zT 187 425 = some (.aload_n 2, 1, 0, 0, 0) := by rfl
set_option maxRecDepth 20000 in
theorem t187_426 : zT 187 426 = some (.aload_n 0, 1, 0, 0, 0) := by rfl
set_option maxRecDepth 20000 in
theorem t187_427 : zT 187 427 = some (.iload_n 3, 1, 0, 0, 0) := by rfl
set_option maxRecDepth 20000 in
theorem t187_428 : zT 187 428 = some (.iconst 1, 1, 0, 0, 0) := by rfl
set_option maxRecDepth 20000 in
theorem t187_429 : zT 187 429 = some (.iadd, 1, 0, 0, 0) := by rfl
set_option maxRecDepth 20000 in
theorem t187_430 : zT 187 430 = some (.iaload, 1, 0, 0, 0) := by rfl
set_option maxRecDepth 20000 in
theorem t187_431 : zT 187 431 = some (.aload_n 0, 1, 0, 0, 0) := by rfl
set_option maxRecDepth 20000 in
theorem t187_432 : zT 187 432 = some (.iload_n 3, 1, 0, 0, 0) := by rfl
set_option maxRecDepth 20000 in
theorem t187_433 : zT 187 433 = some (.iconst 2, 1, 0, 0, 0) := by rfl
set_option maxRecDepth 20000 in
theorem t187_434 : zT 187 434 = some (.iadd, 1, 0, 0, 0) := by rfl
set_option maxRecDepth 20000 in
theorem t187_435 : zT 187 435 = some (.iaload, 1, 0, 0, 0) := by rfl
set_option maxRecDepth 20000 in
theorem t187_436 : zT 187 436 = some (.invokevirtual 64, 3, 160, 0, 1024) := by rfl
set_option maxRecDepth 20000 in
theorem t187_439 : zT 187 439 = some (.if_icmp .eq 354, 3, 0, 0, 0) := by rfl
set_option maxRecDepth 20000 in
theorem t187_442 : zT 187 442 = some (.iconst 0, 1, 0, 0, 0) := by rfl
set_option maxRecDepth 20000 in
theorem t187_443 : zT 187 443 = some (.ireturn, 1, 0, 0, 0) := by rfl
set_option maxRecDepth 20000 in
theorem t187_444 : zT 187 444 = some (.aload_n 1, 1, 0, 0, 0) := by rfl
set_option maxRecDepth 20000 in
theorem t187_445 : zT 187 445 = some (.aload_n 0, 1, 0, 0, 0) := by rfl
set_option maxRecDepth 20000 in
theorem t187_446 : zT 187 446 = some (.iload_n 3, 1, 0, 0, 0) := by rfl
set_option maxRecDepth 20000 in
theorem t187_447 : zT 187 447 = some (.iconst 1, 1, 0, 0, 0) := by rfl
set_option maxRecDepth 20000 in
theorem t187_448 : zT 187 448 = some (.iadd, 1, 0, 0, 0) := by rfl
set_option maxRecDepth 20000 in
theorem t187_449 : zT 187 449 = some (.iaload, 1, 0, 0, 0) := by rfl
set_option maxRecDepth 20000 in
theorem t187_450 : zT 187 450 = some (.aload_n 0, 1, 0, 0, 0) := by rfl
set_option maxRecDepth 20000 in
theorem t187_451 : zT 187 451 = some (.iload_n 3, 1, 0, 0, 0) := by rfl
set_option maxRecDepth 20000 in
theorem t187_452 : zT 187 452 = some (.iconst 2, 1, 0, 0, 0) := by rfl
set_option maxRecDepth 20000 in
theorem t187_453 : zT 187 453 = some (.iadd, 1, 0, 0, 0) := by rfl
set_option maxRecDepth 20000 in
theorem t187_454 : zT 187 454 = some (.iaload, 1, 0, 0, 0) := by rfl
set_option maxRecDepth 20000 in
theorem t187_455 : zT 187 455 = some (.invokevirtual 65, 3, 100, 0, 636) := by rfl
set_option maxRecDepth 20000 in
theorem t187_458 : zT 187 458 = some (.aload_n 2, 1, 0, 0, 0) := by rfl
set_option maxRecDepth 20000 in
theorem t187_459 : zT 187 459 = some (.aload_n 0, 1, 0, 0, 0) := by rfl
set_option maxRecDepth 20000 in
theorem t187_460 : zT 187 460 = some (.iload_n 3, 1, 0, 0, 0) := by rfl
set_option maxRecDepth 20000 in
theorem t187_461 : zT 187 461 = some (.iconst 1, 1, 0, 0, 0) := by rfl
set_option maxRecDepth 20000 in
theorem t187_462 : zT 187 462 = some (.iadd, 1, 0, 0, 0) := by rfl
set_option maxRecDepth 20000 in
theorem t187_463 : zT 187 463 = some (.iaload, 1, 0, 0, 0) := by rfl
set_option maxRecDepth 20000 in
theorem t187_464 : zT 187 464 = some (.aload_n 0, 1, 0, 0, 0) := by rfl
set_option maxRecDepth 20000 in
theorem t187_465 : zT 187 465 = some (.iload_n 3, 1, 0, 0, 0) := by rfl
set_option maxRecDepth 20000 in
theorem t187_466 : zT 187 466 = some (.iconst 2, 1, 0, 0, 0) := by rfl
set_option maxRecDepth 20000 in
theorem t187_467 : zT 187 467 = some (.iadd, 1, 0, 0, 0) := by rfl
set_option maxRecDepth 20000 in
theorem t187_468 : zT 187 468 = some (.iaload, 1, 0, 0, 0) := by rfl
set_option maxRecDepth 20000 in
theorem t187_469 : zT 187 469 = some (.invokevirtual 68, 3, 161, 0, 1036) := by rfl
set_option maxRecDepth 20000 in
theorem t187_472 : zT 187 472 = some (.if_icmp .eq 321, 3, 0, 0, 0) := by rfl
set_option maxRecDepth 20000 in
theorem t187_475 : zT 187 475 = some (.iconst 0, 1, 0, 0, 0) := by rfl
set_option maxRecDepth 20000 in
theorem t187_476 : zT 187 476 = some (.ireturn, 1, 0, 0, 0) := by rfl
set_option maxRecDepth 20000 in
theorem t187_477 : zT 187 477 = some (.aload_n 1, 1, 0, 0, 0) := by rfl
set_option maxRecDepth 20000 in
theorem t187_478 : zT 187 478 = some (.aload_n 0, 1, 0, 0, 0) := by rfl
set_option maxRecDepth 20000 in
theorem t187_479 : zT 187 479 = some (.iload_n 3, 1, 0, 0, 0) := by rfl
set_option maxRecDepth 20000 in
theorem t187_480 : zT 187 480 = some (.iconst 1, 1, 0, 0, 0) := by rfl
set_option maxRecDepth 20000 in
theorem t187_481 : zT 187 481 = some (.iadd, 1, 0, 0, 0) := by rfl
set_option maxRecDepth 20000 in
theorem t187_482 : zT 187 482 = some (.iaload, 1, 0, 0, 0) := by rfl
set_option maxRecDepth 20000 in
theorem t187_483 : zT 187 483 = some (.aload_n 0, 1, 0, 0, 0) := by rfl
set_option maxRecDepth 20000 in
theorem t187_484 : zT 187 484 = some (.iload_n 3, 1, 0, 0, 0) := by rfl
set_option maxRecDepth 20000 in
theorem t187_485 : zT 187 485 = some (.iconst 2, 1, 0, 0, 0) := by rfl
set_option maxRecDepth 20000 in
theorem t187_486 : zT 187 486 = some (.iadd, 1, 0, 0, 0) := by rfl
set_option maxRecDepth 20000 in
theorem t187_487 : zT 187 487 = some (.iaload, 1, 0, 0, 0) := by rfl
set_option maxRecDepth 20000 in
theorem t187_488 : zT 187 488 = some (.invokevirtual 69, 3, 101, 0, 642) := by rfl
set_option maxRecDepth 20000 in
theorem t187_491 : zT 187 491 = some (.aload_n 2, 1, 0, 0, 0) := by rfl
set_option maxRecDepth 20000 in
theorem t187_492 : zT 187 492 = some (.aload_n 0, 1, 0, 0, 0) := by rfl
set_option maxRecDepth 20000 in
theorem t187_493 : zT 187 493 = some (.iload_n 3, 1, 0, 0, 0) := by rfl
set_option maxRecDepth 20000 in
theorem t187_494 : zT 187 494 = some (.iconst 1, 1, 0, 0, 0) := by rfl
set_option maxRecDepth 20000 in
theorem t187_495 : zT 187 495 = some (.iadd, 1, 0, 0, 0) := by rfl
set_option maxRecDepth 20000 in
theorem t187_496 : zT 187 496 = some (.iaload, 1, 0, 0, 0) := by rfl
set_option maxRecDepth 20000 in
theorem t187_497 : zT 187 497 = some (.aload_n 0, 1, 0, 0, 0) := by rfl
set_option maxRecDepth 20000 in
theorem t187_498 : zT 187 498 = some (.iload_n 3, 1, 0, 0, 0) := by rfl
set_option maxRecDepth 20000 in
theorem t187_499 : zT 187 499 = some (.iconst 2, 1, 0, 0, 0) := by rfl
set_option maxRecDepth 20000 in
theorem t187_500 : zT 187 500 = some (.iadd, 1, 0, 0, 0) := by rfl
set_option maxRecDepth 20000 in
theorem t187_501 : zT 187 501 = some (.iaload, 1, 0, 0, 0) := by rfl
set_option maxRecDepth 20000 in
theorem t187_502 : zT 187 502 = some (.invokevirtual 72, 3, 163, 0, 1040) := by rfl
set_option maxRecDepth 20000 in
theorem t187_505 : zT 187 505 = some (.if_icmp .eq 288, 3, 0, 0, 0) := by rfl
set_option maxRecDepth 20000 in
theorem t187_508 : zT 187 508 = some (.iconst 0, 1, 0, 0, 0) := by rfl
set_option maxRecDepth 20000 in
theorem t187_509 : zT 187 509 = some (.ireturn, 1, 0, 0, 0) := by rfl
set_option maxRecDepth 20000 in
theorem t187_510 : zT 187 510 = some (.aload_n 1, 1, 0, 0, 0) := by rfl
set_option maxRecDepth 20000 in
theorem t187_511 : zT 187 511 = some (.aload_n 0, 1, 0, 0, 0) := by rfl
set_option maxRecDepth 20000 in
theorem t187_512 : zT 187 512 = some (.iload_n 3, 1, 0, 0, 0) := by rfl
set_option maxRecDepth 20000 in
theorem t187_513 : zT 187 513 = some (.iconst 1, 1, 0, 0, 0) := by rfl
set_option maxRecDepth 20000 in
theorem t187_514 : zT 187 514 = some (.iadd, 1, 0, 0, 0) := by rfl
set_option maxRecDepth 20000 in
theorem t187_515 : zT 187 515 = some (.iaload, 1, 0, 0, 0) := by rfl
set_option maxRecDepth 20000 in
theorem t187_516 : zT 187 516 = some (.invokevirtual 73, 3, 102, 0, 663) := by rfl
set_option maxRecDepth 20000 in
theorem t187_519 : zT 187 519 = some (.aload_n 2, 1, 0, 0, 0) := by rfl
set_option maxRecDepth 20000 in
theorem t187_520 : zT 187 520 = some (.aload_n 0, 1, 0, 0, 0) := by rfl
set_option maxRecDepth 20000 in
theorem t187_521 : zT 187 521 = some (.iload_n 3, 1, 0, 0, 0) := by rfl
set_option maxRecDepth 20000 in
theorem t187_522 : zT 187 522 = some (.iconst 1, 1, 0, 0, 0) := by rfl
set_option maxRecDepth 20000 in
theorem t187_523 : zT 187 523 = some (.iadd, 1, 0, 0, 0) := by rfl
set_option maxRecDepth 20000 in
theorem t187_524 : zT 187 524 = some (.iaload, 1, 0, 0, 0) := by rfl
set_option maxRecDepth 20000 in
theorem t187_525 : zT 187 525 = some (.invokevirtual 76, 3, 165, 0, 1048) := by rfl
set_option maxRecDepth 20000 in
theorem t187_528 : zT 187 528 = some (.if_icmp .eq 265, 3, 0, 0, 0) := by rfl
set_option maxRecDepth 20000 in
theorem t187_531 : zT 187 531 = some (.iconst 0, 1, 0, 0, 0) := by rfl
set_option maxRecDepth 20000 in
theorem t187_532 : zT 187 532 = some (.ireturn, 1, 0, 0, 0) := by rfl
set_option maxRecDepth 20000 in
theorem t187_533 : zT 187 533 = some (.aload_n 1, 1, 0, 0, 0) := by rfl
set_option maxRecDepth 20000 in
theorem t187_534 : zT 187 534 = some (.aload_n 0, 1, 0, 0, 0) := by rfl
set_option maxRecDepth 20000 in
theorem t187_535 : zT 187 535 = some (.iload_n 3, 1, 0, 0, 0) := by rfl
set_option maxRecDepth 20000 in
theorem t187_536 : zT 187 536 = some (.iconst 1, 1, 0, 0, 0) := by rfl
set_option maxRecDepth 20000 in
theorem t187_537 : zT 187 537 = some (.iadd, 1, 0, 0, 0) := by rfl
set_option maxRecDepth 20000 in
theorem t187_538 : zT 187 538 = some (.iaload, 1, 0, 0, 0) := by rfl
set_option maxRecDepth 20000 in
theorem t187_539 : zT 187 539 = some (.aload_n 0, 1, 0, 0, 0) := by rfl
set_option maxRecDepth 20000 in
theorem t187_540 : zT 187 540 = some (.iload_n 3, 1, 0, 0, 0) := by rfl
set_option maxRecDepth 20000 in
theorem t187_541 : zT 187 541 = some (.iconst 2, 1, 0, 0, 0) := by rfl
set_option maxRecDepth 20000 in
theorem t187_542 : zT 187 542 = some (.iadd, 1, 0, 0, 0) := by rfl
set_option maxRecDepth 20000 in
theorem t187_543 : zT 187 543 = some (.iaload, 1, 0, 0, 0) := by rfl
set_option maxRecDepth 20000 in
theorem t187_544 : zT 187 544 = some (.invokevirtual 77, 3, 103, 0, 677) := by rfl
set_option maxRecDepth 20000 in
theorem t187_547 : zT 187 547 = some (.aload_n 2, 1, 0, 0, 0) := by rfl
set_option maxRecDepth 20000 in
theorem t187_548 : zT 187 548 = some (.aload_n 0, 1, 0, 0, 0) := by rfl
set_option maxRecDepth 20000 in
theorem t187_549 : zT 187 549 = some (.iload_n 3, 1, 0, 0, 0) := by rfl
set_option maxRecDepth 20000 in
theorem t187_550 : zT 187 550 = some (.iconst 1, 1, 0, 0, 0) := by rfl
set_option maxRecDepth 20000 in
theorem t187_551 : zT 187 551 = some (.iadd, 1, 0, 0, 0) := by rfl
set_option maxRecDepth 20000 in
theorem t187_552 : zT 187 552 = some (.iaload, 1, 0, 0, 0) := by rfl
set_option maxRecDepth 20000 in
theorem t187_553 : zT 187 553 = some (.aload_n 0, 1, 0, 0, 0) := by rfl
set_option maxRecDepth 20000 in
theorem t187_554 : zT 187 554 = some (.iload_n 3, 1, 0, 0, 0) := by rfl
set_option maxRecDepth 20000 in
theorem t187_555 : zT 187 555 = some (.iconst 2, 1, 0, 0, 0) := by rfl
set_option maxRecDepth 20000 in
theorem t187_556 : zT 187 556 = some (.iadd, 1, 0, 0, 0) := by rfl
set_option maxRecDepth 20000 in
theorem t187_557 : zT 187 557 = some (.iaload, 1, 0, 0, 0) := by rfl
set_option maxRecDepth 20000 in
theorem t187_558 : zT 187 558 = some (.invokevirtual 80, 3, 167, 0, 1056) := by rfl
set_option maxRecDepth 20000 in
theorem t187_561 : zT 187 561 = some (.if_icmp .eq 232, 3, 0, 0, 0) := by rfl
set_option maxRecDepth 20000 in
theorem t187_564 : zT 187 564 = some (.iconst 0, 1, 0, 0, 0) := by rfl
set_option maxRecDepth 20000 in
theorem t187_565 : zT 187 565 = some (.ireturn, 1, 0, 0, 0) := by rfl
set_option maxRecDepth 20000 in
theorem t187_566 : zT 187 566 = some (.aload_n 1, 1, 0, 0, 0) := by rfl
set_option maxRecDepth 20000 in
theorem t187_567 : zT 187 567 = some (.aload_n 0, 1, 0, 0, 0) := by rfl
set_option maxRecDepth 20000 in
theorem t187_568 : zT 187 568 = some (.iload_n 3, 1, 0, 0, 0) := by rfl
set_option maxRecDepth 20000 in
theorem t187_569 : zT 187 569 = some (.iconst 1, 1, 0, 0, 0) := by rfl
set_option maxRecDepth 20000 in
theorem t187_570 : zT 187 570 = some (.iadd, 1, 0, 0, 0) := by rfl
set_option maxRecDepth 20000 in
theorem t187_571 : zT 187 571 = some (.iaload, 1, 0, 0, 0) := by rfl
set_option maxRecDepth 20000 in
theorem t187_572 : zT 187 572 = some (.aload_n 0, 1, 0, 0, 0) := by rfl
set_option maxRecDepth 20000 in
theorem t187_573 : zT 187 573 = some (.iload_n 3, 1, 0, 0, 0) := by rfl
set_option maxRecDepth 20000 in
theorem t187_574 : zT 187 574 = some (.iconst 2, 1, 0, 0, 0) := by rfl
set_option maxRecDepth 20000 in
theorem t187_575 : zT 187 575 = some (.iadd, 1, 0, 0, 0) := by rfl
set_option maxRecDepth 20000 in
theorem t187_576 : zT 187 576 = some (.iaload, 1, 0, 0, 0) := by rfl
set_option maxRecDepth 20000 in
theorem t187_577 : zT 187 577 = some (.invokevirtual 81, 3, 104, 0, 703) := by rfl
set_option maxRecDepth 20000 in
theorem t187_580 : zT 187 580 = some (.aload_n 2, 1, 0, 0, 0) := by rfl
set_option maxRecDepth 20000 in
theorem t187_581 : zT 187 581 = some (.aload_n 0, 1, 0, 0, 0) := by rfl
set_option maxRecDepth 20000 in
theorem t187_582 : zT 187 582 = some (.iload_n 3, 1, 0, 0, 0) := by rfl
set_option maxRecDepth 20000 in
theorem t187_583 : zT 187 583 = some (.iconst 1, 1, 0, 0, 0) := by rfl
set_option maxRecDepth 20000 in
theorem t187_584 : zT 187 584 = some (.iadd, 1, 0, 0, 0) := by rfl
set_option maxRecDepth 20000 in
theorem t187_585 : zT 187 585 = some (.iaload, 1, 0, 0, 0) := by rfl
set_option maxRecDepth 20000 in
theorem t187_586 : zT 187 586 = some (.aload_n 0, 1, 0, 0, 0) := by rfl
set_option maxRecDepth 20000 in
theorem t187_587 : zT 187 587 = some (.iload_n 3, 1, 0, 0, 0) := by rfl
set_option maxRecDepth 20000 in
theorem t187_588 : zT 187 588 = some (.iconst 2, 1, 0, 0, 0) := by rfl
set_option maxRecDepth 20000 in
theorem t187_589 : zT 187 589 = some (.iadd, 1, 0, 0, 0) := by rfl
set_option maxRecDepth 20000 in
theorem t187_590 : zT 187 590 = some (.iaload, 1, 0, 0, 0) := by rfl
set_option maxRecDepth 20000 in
theorem t187_591 : zT 187 591 = some (.invokevirtual 84, 3, 169, 0, 1064) := by rfl
set_option maxRecDepth 20000 in
theorem t187_594 : zT 187 594 = some (.if_icmp .eq 199, 3, 0, 0, 0) := by rfl
set_option maxRecDepth 20000 in
theorem t187_597 : zT 187 597 = some (.iconst 0, 1, 0, 0, 0) := by rfl
set_option maxRecDepth 20000 in
theorem t187_598 : zT 187 598 = some (.ireturn, 1, 0, 0, 0) := by rfl
set_option maxRecDepth 20000 in
theorem t187_599 : zT 187 599 = some (.aload_n 1, 1, 0, 0, 0) := by rfl
set_option maxRecDepth 20000 in
theorem t187_600 : zT 187 600 = some (.aload_n 0, 1, 0, 0, 0) := by rfl
set_option maxRecDepth 20000 in
theorem t187_601 : zT 187 601 = some (.iload_n 3, 1, 0, 0, 0) := by rfl
set_option maxRecDepth 20000 in
theorem t187_602 : zT 187 602 = some (.iconst 1, 1, 0, 0, 0) := by rfl
set_option maxRecDepth 20000 in
theorem t187_603 : zT 187 603 = some (.iadd, 1, 0, 0, 0) := by rfl
set_option maxRecDepth 20000 in
theorem t187_604 : zT 187 604 = some (.iaload, 1, 0, 0, 0) := by rfl
set_option maxRecDepth 20000 in
theorem t187_605 : zT 187 605 = some (.aload_n 0, 1, 0, 0, 0) := by rfl
set_option maxRecDepth 20000 in
theorem t187_606 : zT 187 606 = some (.iload_n 3, 1, 0, 0, 0) := by rfl
set_option maxRecDepth 20000 in
theorem t187_607 : zT 187 607 = some (.iconst 2, 1, 0, 0, 0) := by rfl
set_option maxRecDepth 20000 in
theorem t187_608 : zT 187 608 = some (.iadd, 1, 0, 0, 0) := by rfl
set_option maxRecDepth 20000 in
theorem t187_609 : zT 187 609 = some (.iaload, 1, 0, 0, 0) := by rfl
set_option maxRecDepth 20000 in
theorem t187_610 : zT 187 610 = some (.invokevirtual 85, 3, 105, 0, 711) := by rfl
set_option maxRecDepth 20000 in
theorem t187_613 : zT 187 613 = some (.aload_n 2, 1, 0, 0, 0) := by rfl
set_option maxRecDepth 20000 in
theorem t187_614 : zT 187 614 = some (.aload_n 0, 1, 0, 0, 0) := by rfl
set_option maxRecDepth 20000 in
theorem t187_615 : zT 187 615 = some (.iload_n 3, 1, 0, 0, 0) := by rfl
set_option maxRecDepth 20000 in
theorem t187_616 : zT 187 616 = some (.iconst 1, 1, 0, 0, 0) := by rfl
set_option maxRecDepth 20000 in
theorem t187_617 : zT 187 617 = some (.iadd, 1, 0, 0, 0) := by rfl
set_option maxRecDepth 20000 in
theorem t187_618 : zT 187 618 = some (.iaload, 1, 0, 0, 0) := by rfl
set_option maxRecDepth 20000 in
theorem t187_619 : zT 187 619 = some (.aload_n 0, 1, 0, 0, 0) := by rfl
set_option maxRecDepth 20000 in
theorem t187_620 : zT 187 620 = some (.iload_n 3, 1, 0, 0, 0) := by rfl
set_option maxRecDepth 20000 in
theorem t187_621 : zT 187 621 = some (.iconst 2, 1, 0, 0, 0) := by rfl
set_option maxRecDepth 20000 in
theorem t187_622 : zT 187 622 = some (.iadd, 1, 0, 0, 0) := by rfl
set_option maxRecDepth 20000 in
theorem t187_623 : zT 187 623 = some (.iaload, 1, 0, 0, 0) := by rfl
set_option maxRecDepth 20000 in
theorem t187_624 : zT 187 624 = some (.invokevirtual 88, 3, 170, 0, 1072) := by rfl
set_option maxRecDepth 20000 in
theorem t187_627 : zT 187 627 = some (.if_icmp .eq 166, 3, 0, 0, 0) := by rfl
set_option maxRecDepth 20000 in
theorem t187_630 : zT 187 630 = some (.iconst 0, 1, 0, 0, 0) := by rfl
set_option maxRecDepth 20000 in
theorem t187_631 : zT 187 631 = some (.ireturn, 1, 0, 0, 0) := by rfl
set_option maxRecDepth 20000 in
theorem t187_632 : zT 187 632 = some (.aload_n 1, 1, 0, 0, 0) := by rfl
set_option maxRecDepth 20000 in
theorem t187_633 : zT 187 633 = some (.aload_n 0, 1, 0, 0, 0) := by rfl
set_option maxRecDepth 20000 in
theorem t187_634 : zT 187 634 = some (.iload_n 3, 1, 0, 0, 0) := by rfl
set_option maxRecDepth 20000 in
theorem t187_635 : zT 187 635 = some (.iconst 1, 1, 0, 0, 0) := by rfl
set_option maxRecDepth 20000 in
theorem t187_636 : zT 187 636 = some (.iadd, 1, 0, 0, 0) := by rfl
set_option maxRecDepth 20000 in
theorem t187_637 : zT 187 637 = some (.iaload, 1, 0, 0, 0) := by rfl
set_option maxRecDepth 20000 in
theorem t187_638 : zT 187 638 = some (.invokevirtual 89, 3, 106, 0, 720) := by rfl
set_option maxRecDepth 20000 in
theorem t187_641 : zT 187 641 = some (.aload_n 2, 1, 0, 0, 0) := by rfl
set_option maxRecDepth 20000 in
theorem t187_642 : zT 187 642 = some (.aload_n 0, 1, 0, 0, 0) := by rfl
set_option maxRecDepth 20000 in
theorem t187_643 : zT 187 643 = some (.iload_n 3, 1, 0, 0, 0) := by rfl
set_option maxRecDepth 20000 in
theorem t187_644 : zT 187 644 = some (.iconst 1, 1, 0, 0, 0) := by rfl
set_option maxRecDepth 20000 in
theorem t187_645 : zT 187 645 = some (.iadd, 1, 0, 0, 0) := by rfl
set_option maxRecDepth 20000 in
theorem t187_646 : zT 187 646 = some (.iaload, 1, 0, 0, 0) := by rfl
set_option maxRecDepth 20000 in
theorem t187_647 : zT 187 647 = some (.invokevirtual 92, 3, 171, 0, 1076) := by rfl
set_option maxRecDepth 20000 in
theorem t187_650 : zT 187 650 = some (.if_icmp .eq 143, 3, 0, 0, 0) := by rfl
set_option maxRecDepth 20000 in
theorem t187_653 : zT 187 653 = some (.iconst 0, 1, 0, 0, 0) := by rfl
set_option maxRecDepth 20000 in
theorem t187_654 : zT 187 654 = some (.ireturn, 1, 0, 0, 0) := by rfl
set_option maxRecDepth 20000 in
theorem t187_655 : zT 187 655 = some (.aload_n 1, 1, 0, 0, 0) := by rfl
set_option maxRecDepth 20000 in
theorem t187_656 : zT 187 656 = some (.aload_n 0, 1, 0, 0, 0) := by rfl
set_option maxRecDepth 20000 in
theorem t187_657 : zT 187 657 = some (.iload_n 3, 1, 0, 0, 0) := by rfl
set_option maxRecDepth 20000 in
theorem t187_658 : zT 187 658 = some (.iconst 1, 1, 0, 0, 0) := by rfl
set_option maxRecDepth 20000 in
theorem t187_659 : zT 187 659 = some (.iadd, 1, 0, 0, 0) := by rfl
set_option maxRecDepth 20000 in
theorem t187_660 : zT 187 660 = some (.iaload, 1, 0, 0, 0) := by rfl
set_option maxRecDepth 20000 in
theorem t187_661 : zT 187 661 = some (.i2l, 1, 0, 0, 0) := by rfl
set_option maxRecDepth 20000 in
theorem t187_662 : zT 187 662 = some (.bipush 32, 2, 0, 0, 0) := by rfl
set_option maxRecDepth 20000 in
theorem t187_664 : zT 187 664 = some (.lshl, 1, 0, 0, 0) := by rfl
set_option maxRecDepth 20000 in
theorem t187_665 : zT 187 665 = some (.aload_n 0, 1, 0, 0, 0) := by rfl
set_option maxRecDepth 20000 in
theorem t187_666 : zT 187 666 = some (.iload_n 3, 1, 0, 0, 0) := by rfl
set_option maxRecDepth 20000 in
theorem t187_667 : zT 187 667 = some (.iconst 2, 1, 0, 0, 0) := by rfl
set_option maxRecDepth 20000 in
theorem t187_668 : zT 187 668 = some (.iadd, 1, 0, 0, 0) := by rfl
set_option maxRecDepth 20000 in
theorem t187_669 : zT 187 669 = some (.iaload, 1, 0, 0, 0) := by rfl
set_option maxRecDepth 20000 in
theorem t187_670 : zT 187 670 = some (.i2l, 1, 0, 0, 0) := by rfl
set_option maxRecDepth 20000 in
theorem t187_671 : zT 187 671 = some (.ldc2_w 93, 3, 4294967295, 0, 1113) := by rfl
set_option maxRecDepth 20000 in
theorem t187_674 : zT 187 674 = some (.land, 1, 0, 0, 0) := by rfl
set_option maxRecDepth 20000 in
theorem t187_675 : zT 187 675 = some (.lor, 1, 0, 0, 0) := by rfl
set_option maxRecDepth 20000 in
theorem t187_676 : zT 187 676 = some (.invokevirtual 95, 3, 107, 0, 729) := by rfl
set_option maxRecDepth 20000 in
theorem t187_679 : zT 187 679 = some (.aload_n 2, 1, 0, 0, 0) := by rfl
set_option maxRecDepth 20000 in
theorem t187_680 : zT 187 680 = some (.aload_n 0, 1, 0, 0, 0) := by rfl
set_option maxRecDepth 20000 in
theorem t187_681 : zT 187 681 = some (.iload_n 3, 1, 0, 0, 0) := by rfl
set_option maxRecDepth 20000 in
theorem t187_682 : zT 187 682 = some (.iconst 1, 1, 0, 0, 0) := by rfl
set_option maxRecDepth 20000 in
theorem t187_683 : zT 187 683 = some (.iadd, 1, 0, 0, 0) := by rfl
set_option maxRecDepth 20000 in
theorem t187_684 : zT 187 684 = some (.iaload, 1, 0, 0, 0) := by rfl
set_option maxRecDepth 20000 in
theorem t187_685 : zT 187 685 = some (.i2l, 1, 0, 0, 0) := by rfl
set_option maxRecDepth 20000 in
theorem t187_686 : zT 187 686 = some (.bipush 32, 2, 0, 0, 0) := by rfl
set_option maxRecDepth 20000 in
theorem t187_688 : zT 187 688 = some (.lshl, 1, 0, 0, 0) := by rfl
set_option maxRecDepth 20000 in
theorem t187_689 : zT 187 689 = some (.aload_n 0, 1, 0, 0, 0) := by rfl
set_option maxRecDepth 20000 in
theorem t187_690 : zT 187 690 = some (.iload_n 3, 1, 0, 0, 0) := by rfl
set_option maxRecDepth 20000 in
theorem t187_691 : zT 187 691 = some (.iconst 2, 1, 0, 0, 0) := by rfl
set_option maxRecDepth 20000 in
theorem t187_692 : zT 187 692 = some (.iadd, 1, 0, 0, 0) := by rfl
set_option maxRecDepth 20000 in
theorem t187_693 : zT 187 693 = some (.iaload, 1, 0, 0, 0) := by rfl
set_option maxRecDepth 20000 in
theorem t187_694 : zT 187 694 = some (.i2l, 1, 0, 0, 0) := by rfl
set_option maxRecDepth 20000 in
theorem t187_695 : zT 187 695 = some (.ldc2_w 93, 3, 4294967295, 0, 1113) := by rfl
set_option maxRecDepth 20000 in
theorem t187_698 : zT 187 698 = some (.land, 1, 0, 0, 0) := by rfl
set_option maxRecDepth 20000 in
theorem t187_699 : zT 187 699 = some (.lor, 1, 0, 0, 0) := by rfl
set_option maxRecDepth 20000 in
theorem t187_700 : zT 187 700 = some (.invokevirtual 99, 3, 172, 0, 1088) := by rfl
set_option maxRecDepth 20000 in
theorem t187_703 : zT 187 703 = some (.if_icmp .eq 90, 3, 0, 0, 0) := by rfl
set_option maxRecDepth 20000 in
theorem t187_706 : zT 187 706 = some (.iconst 0, 1, 0, 0, 0) := by rfl
set_option maxRecDepth 20000 in
theorem t187_707 : zT 187 707 = some (.ireturn, 1, 0, 0, 0) := by rfl
set_option maxRecDepth 20000 in
theorem t187_708 : zT 187 708 = some (.aload_n 1, 1, 0, 0, 0) := by rfl
set_option maxRecDepth 20000 in
theorem t187_709 : zT 187 709 = some (.invokevirtual 100, 3, 108, 0, 741) := by rfl
set_option maxRecDepth 20000 in
theorem t187_712 : zT 187 712 = some (.aload_n 2, 1, 0, 0, 0) := by rfl
set_option maxRecDepth 20000 in
theorem t187_713 : zT 187 713 = some (.invokevirtual 103, 3, 173, 0, 1093) := by rfl
set_option maxRecDepth 20000 in
theorem t187_716 : zT 187 716 = some (.if_icmp .eq 77, 3, 0, 0, 0) := by rfl
set_option maxRecDepth 20000 in
theorem t187_719 : zT 187 719 = some (.iconst 0, 1, 0, 0, 0) := by rfl
set_option maxRecDepth 20000 in
theorem t187_720 : zT 187 720 = some (.ireturn, 1, 0, 0, 0) := by rfl
set_option maxRecDepth 20000 in
theorem t187_721 : zT 187 721 = some (.aload_n 1, 1, 0, 0, 0) := by rfl
set_option maxRecDepth 20000 in
theorem t187_722 : zT 187 722 = some (.invokevirtual 104, 3, 109, 0, 745) := by rfl
set_option maxRecDepth 20000 in
theorem t187_725 : zT 187 725 = some (.aload_n 2, 1, 0, 0, 0) := by rfl
set_option maxRecDepth 20000 in
theorem t187_726 : zT 187 726 = some (.invokevirtual 107, 3, 181, 0, 1097) := by rfl
set_option maxRecDepth 20000 in
theorem t187_729 : zT 187 729 = some (.if_icmp .eq 64, 3, 0, 0, 0) := by rfl
set_option maxRecDepth 20000 in
theorem t187_732 : zT 187 732 = some (.iconst 0, 1, 0, 0, 0) := by rfl
set_option maxRecDepth 20000 in
theorem t187_733 : zT 187 733 = some (.ireturn, 1, 0, 0, 0) := by rfl
set_option maxRecDepth 20000 in
theorem t187_734 : zT 187 734 = some (.aload_n 1, 1, 0, 0, 0) := by rfl
set_option maxRecDepth 20000 in
theorem t187_735 : zT 187 735 = some (.invokevirtual 108, 3, 110, 0, 749) := by rfl
set_option maxRecDepth 20000 in
theorem t187_738 : zT 187 738 = some (.aload_n 2, 1, 0, 0, 0) := by rfl
set_option maxRecDepth 20000 in
theorem t187_739 : zT 187 739 = some (.invokevirtual 111, 3, 182, 0, 1101) := by rfl
set_option maxRecDepth 20000 in
theorem t187_742 : zT 187 742 = some (.if_icmp .eq 51, 3, 0, 0, 0) := by rfl
set_option maxRecDepth 20000 in
theorem t187_745 : zT 187 745 = some (.iconst 0, 1, 0, 0, 0) := by rfl
set_option maxRecDepth 20000 in
theorem t187_746 : zT 187 746 = some (.ireturn, 1, 0, 0, 0) := by rfl
set_option maxRecDepth 20000 in
theorem t187_747 : zT 187 747 = some (.aload_n 1, 1, 0, 0, 0) := by rfl
set_option maxRecDepth 20000 in
theorem t187_748 : zT 187 748 = some (.aload_n 0, 1, 0, 0, 0) := by rfl
set_option maxRecDepth 20000 in
theorem t187_749 : zT 187 749 = some (.iload_n 3, 1, 0, 0, 0) := by rfl
set_option maxRecDepth 20000 in
theorem t187_750 : zT 187 750 = some (.iconst 1, 1, 0, 0, 0) := by rfl
set_option maxRecDepth 20000 in
theorem t187_751 : zT 187 751 = some (.iadd, 1, 0, 0, 0) := by rfl
set_option maxRecDepth 20000 in
theorem t187_752 : zT 187 752 = some (.iaload, 1, 0, 0, 0) := by rfl
set_option maxRecDepth 20000 in
theorem t187_753 : zT 187 753 = some (.invokevirtual 112, 3, 111, 0, 757) := by rfl
set_option maxRecDepth 20000 in
theorem t187_756 : zT 187 756 = some (.aload_n 2, 1, 0, 0, 0) := by rfl
set_option maxRecDepth 20000 in
theorem t187_757 : zT 187 757 = some (.aload_n 0, 1, 0, 0, 0) := by rfl
set_option maxRecDepth 20000 in
theorem t187_758 : zT 187 758 = some (.iload_n 3, 1, 0, 0, 0) := by rfl
set_option maxRecDepth 20000 in
theorem t187_759 : zT 187 759 = some (.iconst 1, 1, 0, 0, 0) := by rfl
set_option maxRecDepth 20000 in
theorem t187_760 : zT 187 760 = some (.iadd, 1, 0, 0, 0) := by rfl
set_option maxRecDepth 20000 in
theorem t187_761 : zT 187 761 = some (.iaload, 1, 0, 0, 0) := by rfl
set_option maxRecDepth 20000 in
theorem t187_762 : zT 187 762 = some (.invokevirtual 115, 3, 183, 0, 1105) := by rfl
set_option maxRecDepth 20000 in
theorem t187_765 : zT 187 765 = some (.if_icmp .eq 28, 3, 0, 0, 0) := by rfl
set_option maxRecDepth 20000 in
theorem t187_768 : zT 187 768 = some (.iconst 0, 1, 0, 0, 0) := by rfl
set_option maxRecDepth 20000 in
theorem t187_769 : zT 187 769 = some (.ireturn, 1, 0, 0, 0) := by rfl
set_option maxRecDepth 20000 in
theorem t187_770 : zT 187 770 = some (.aload_n 1, 1, 0, 0, 0) := by rfl
set_option maxRecDepth 20000 in
theorem t187_771 : zT 187 771 = some (.aload_n 0, 1, 0, 0, 0) := by rfl
set_option maxRecDepth 20000 in
theorem t187_772 : zT 187 772 = some (.iload_n 3, 1, 0, 0, 0) := by rfl
set_option maxRecDepth 20000 in
theorem t187_773 : zT 187 773 = some (.iconst 1, 1, 0, 0, 0) := by rfl
set_option maxRecDepth 20000 in
theorem t187_774 : zT 187 774 = some (.iadd, 1, 0, 0, 0) := by rfl
set_option maxRecDepth 20000 in
theorem t187_775 : zT 187 775 = some (.iaload, 1, 0, 0, 0) := by rfl
set_option maxRecDepth 20000 in
theorem t187_776 : zT 187 776 = some (.invokevirtual 116, 3, 112, 0, 769) := by rfl
set_option maxRecDepth 20000 in
theorem t187_779 : zT 187 779 = some (.aload_n 2, 1, 0, 0, 0) := by rfl
set_option maxRecDepth 20000 in
theorem t187_780 : zT 187 780 = some (.aload_n 0, 1, 0, 0, 0) := by rfl
set_option maxRecDepth 20000 in
theorem t187_781 : zT 187 781 = some (.iload_n 3, 1, 0, 0, 0) := by rfl
set_option maxRecDepth 20000 in
theorem t187_782 : zT 187 782 = some (.iconst 1, 1, 0, 0, 0) := by rfl
set_option maxRecDepth 20000 in
theorem t187_783 : zT 187 783 = some (.iadd, 1, 0, 0, 0) := by rfl
set_option maxRecDepth 20000 in
theorem t187_784 : zT 187 784 = some (.iaload, 1, 0, 0, 0) := by rfl
set_option maxRecDepth 20000 in
theorem t187_785 : zT 187 785 = some (.invokevirtual 119, 3, 184, 0, 1109) := by rfl
set_option maxRecDepth 20000 in
theorem t187_788 : zT 187 788 = some (.if_icmp .eq 5, 3, 0, 0, 0) := by rfl
set_option maxRecDepth 20000 in
theorem t187_791 : zT 187 791 = some (.iconst 0, 1, 0, 0, 0) := by rfl
set_option maxRecDepth 20000 in
theorem t187_792 : zT 187 792 = some (.ireturn, 1, 0, 0, 0) := by rfl
set_option maxRecDepth 20000 in
theorem t187_793 : zT 187 793 = some (.iinc 3 4, 3, 0, 0, 0) := by rfl
set_option maxRecDepth 20000 in
theorem t187_796 : zT 187 796 = some (.goto (-778), 3, 0, 0, 0) := by rfl
set_option maxRecDepth 20000 in
theorem t187_799 : zT 187 799 = some (.iconst 1, 1, 0, 0, 0) := by rfl
set_option maxRecDepth 20000 in
theorem t187_800 : zT 187 800 = some (.ireturn, 1, 0, 0, 0) := by rfl
/-! L_law FiveInksLaw.law -/
theorem k187_18 {X : Nat × (Nat → Int32)} {I : Nat → Nat → Int32} {v3 : Int32}  : zr X 187 18 [.ref 0, .ref 1, .ref 160, .int v3] [] (zk I) = if ((Int32.ofNat X.1) - 4) < v3 then zr X 187 799 [.ref 0, .ref 1, .ref 160, .int v3] [] (zk I) else zr X 187 26 [.ref 0, .ref 1, .ref 160, .int v3] [] (zk I) :=
  (zr_iload_n t187_18 rfl).trans <|
    (zr_aload_n t187_19 rfl).trans <|
    (zr_slen t187_20).trans <|
    (zr_iconst t187_21 zci_4).trans <|
    (zr_isub t187_22).trans <|
    zr_ic_gt (tgt := 799) t187_23 rfl
theorem k187_26_c0 {X : Nat × (Nat → Int32)} {I : Nat → Nat → Int32} {v3 : Int32} (q1 : zin v3 X.1 = true) (qc : (X.2 (zx v3)) &&& 31 = 0) : zr X 187 26 [.ref 0, .ref 1, .ref 160, .int v3] [] (zk I) = zr X 187 148 [.ref 0, .ref 1, .ref 160, .int v3] [] (zk I) :=
  (zr_aload_n t187_26 rfl).trans <|
    (zr_iload_n t187_27 rfl).trans <|
    (zr_sld (j := zx v3) t187_28 rfl q1).trans <|
    (zr_bipush t187_29 zcb_31).trans <|
    (zr_iand t187_31).trans <|
    zr_tabI (off := 116) (tgt := 148) t187_32 (by rw [qc]; decide) (by rw [qc]; decide) rfl
theorem k187_26_c1 {X : Nat × (Nat → Int32)} {I : Nat → Nat → Int32} {v3 : Int32} (q1 : zin v3 X.1 = true) (qc : (X.2 (zx v3)) &&& 31 = 1) : zr X 187 26 [.ref 0, .ref 1, .ref 160, .int v3] [] (zk I) = zr X 187 161 [.ref 0, .ref 1, .ref 160, .int v3] [] (zk I) :=
  (zr_aload_n t187_26 rfl).trans <|
    (zr_iload_n t187_27 rfl).trans <|
    (zr_sld (j := zx v3) t187_28 rfl q1).trans <|
    (zr_bipush t187_29 zcb_31).trans <|
    (zr_iand t187_31).trans <|
    zr_tabI (off := 129) (tgt := 161) t187_32 (by rw [qc]; decide) (by rw [qc]; decide) rfl
theorem k187_26_c2 {X : Nat × (Nat → Int32)} {I : Nat → Nat → Int32} {v3 : Int32} (q1 : zin v3 X.1 = true) (qc : (X.2 (zx v3)) &&& 31 = 2) : zr X 187 26 [.ref 0, .ref 1, .ref 160, .int v3] [] (zk I) = zr X 187 194 [.ref 0, .ref 1, .ref 160, .int v3] [] (zk I) :=
  (zr_aload_n t187_26 rfl).trans <|
    (zr_iload_n t187_27 rfl).trans <|
    (zr_sld (j := zx v3) t187_28 rfl q1).trans <|
    (zr_bipush t187_29 zcb_31).trans <|
    (zr_iand t187_31).trans <|
    zr_tabI (off := 162) (tgt := 194) t187_32 (by rw [qc]; decide) (by rw [qc]; decide) rfl
theorem k187_26_c3 {X : Nat × (Nat → Int32)} {I : Nat → Nat → Int32} {v3 : Int32} (q1 : zin v3 X.1 = true) (qc : (X.2 (zx v3)) &&& 31 = 3) : zr X 187 26 [.ref 0, .ref 1, .ref 160, .int v3] [] (zk I) = zr X 187 207 [.ref 0, .ref 1, .ref 160, .int v3] [] (zk I) :=
  (zr_aload_n t187_26 rfl).trans <|
    (zr_iload_n t187_27 rfl).trans <|
    (zr_sld (j := zx v3) t187_28 rfl q1).trans <|
    (zr_bipush t187_29 zcb_31).trans <|
    (zr_iand t187_31).trans <|
    zr_tabI (off := 175) (tgt := 207) t187_32 (by rw [qc]; decide) (by rw [qc]; decide) rfl
theorem k187_26_c4 {X : Nat × (Nat → Int32)} {I : Nat → Nat → Int32} {v3 : Int32} (q1 : zin v3 X.1 = true) (qc : (X.2 (zx v3)) &&& 31 = 4) : zr X 187 26 [.ref 0, .ref 1, .ref 160, .int v3] [] (zk I) = zr X 187 250 [.ref 0, .ref 1, .ref 160, .int v3] [] (zk I) :=
  (zr_aload_n t187_26 rfl).trans <|
    (zr_iload_n t187_27 rfl).trans <|
    (zr_sld (j := zx v3) t187_28 rfl q1).trans <|
    (zr_bipush t187_29 zcb_31).trans <|
    (zr_iand t187_31).trans <|
    zr_tabI (off := 218) (tgt := 250) t187_32 (by rw [qc]; decide) (by rw [qc]; decide) rfl
theorem k187_26_c5 {X : Nat × (Nat → Int32)} {I : Nat → Nat → Int32} {v3 : Int32} (q1 : zin v3 X.1 = true) (qc : (X.2 (zx v3)) &&& 31 = 5) : zr X 187 26 [.ref 0, .ref 1, .ref 160, .int v3] [] (zk I) = zr X 187 273 [.ref 0, .ref 1, .ref 160, .int v3] [] (zk I) :=
  (zr_aload_n t187_26 rfl).trans <|
    (zr_iload_n t187_27 rfl).trans <|
    (zr_sld (j := zx v3) t187_28 rfl q1).trans <|
    (zr_bipush t187_29 zcb_31).trans <|
    (zr_iand t187_31).trans <|
    zr_tabI (off := 241) (tgt := 273) t187_32 (by rw [qc]; decide) (by rw [qc]; decide) rfl
theorem k187_26_c6 {X : Nat × (Nat → Int32)} {I : Nat → Nat → Int32} {v3 : Int32} (q1 : zin v3 X.1 = true) (qc : (X.2 (zx v3)) &&& 31 = 6) : zr X 187 26 [.ref 0, .ref 1, .ref 160, .int v3] [] (zk I) = zr X 187 296 [.ref 0, .ref 1, .ref 160, .int v3] [] (zk I) :=
  (zr_aload_n t187_26 rfl).trans <|
    (zr_iload_n t187_27 rfl).trans <|
    (zr_sld (j := zx v3) t187_28 rfl q1).trans <|
    (zr_bipush t187_29 zcb_31).trans <|
    (zr_iand t187_31).trans <|
    zr_tabI (off := 264) (tgt := 296) t187_32 (by rw [qc]; decide) (by rw [qc]; decide) rfl
theorem k187_26_c7 {X : Nat × (Nat → Int32)} {I : Nat → Nat → Int32} {v3 : Int32} (q1 : zin v3 X.1 = true) (qc : (X.2 (zx v3)) &&& 31 = 7) : zr X 187 26 [.ref 0, .ref 1, .ref 160, .int v3] [] (zk I) = zr X 187 319 [.ref 0, .ref 1, .ref 160, .int v3] [] (zk I) :=
  (zr_aload_n t187_26 rfl).trans <|
    (zr_iload_n t187_27 rfl).trans <|
    (zr_sld (j := zx v3) t187_28 rfl q1).trans <|
    (zr_bipush t187_29 zcb_31).trans <|
    (zr_iand t187_31).trans <|
    zr_tabI (off := 287) (tgt := 319) t187_32 (by rw [qc]; decide) (by rw [qc]; decide) rfl
theorem k187_26_c8 {X : Nat × (Nat → Int32)} {I : Nat → Nat → Int32} {v3 : Int32} (q1 : zin v3 X.1 = true) (qc : (X.2 (zx v3)) &&& 31 = 8) : zr X 187 26 [.ref 0, .ref 1, .ref 160, .int v3] [] (zk I) = zr X 187 332 [.ref 0, .ref 1, .ref 160, .int v3] [] (zk I) :=
  (zr_aload_n t187_26 rfl).trans <|
    (zr_iload_n t187_27 rfl).trans <|
    (zr_sld (j := zx v3) t187_28 rfl q1).trans <|
    (zr_bipush t187_29 zcb_31).trans <|
    (zr_iand t187_31).trans <|
    zr_tabI (off := 300) (tgt := 332) t187_32 (by rw [qc]; decide) (by rw [qc]; decide) rfl
theorem k187_26_c9 {X : Nat × (Nat → Int32)} {I : Nat → Nat → Int32} {v3 : Int32} (q1 : zin v3 X.1 = true) (qc : (X.2 (zx v3)) &&& 31 = 9) : zr X 187 26 [.ref 0, .ref 1, .ref 160, .int v3] [] (zk I) = zr X 187 345 [.ref 0, .ref 1, .ref 160, .int v3] [] (zk I) :=
  (zr_aload_n t187_26 rfl).trans <|
    (zr_iload_n t187_27 rfl).trans <|
    (zr_sld (j := zx v3) t187_28 rfl q1).trans <|
    (zr_bipush t187_29 zcb_31).trans <|
    (zr_iand t187_31).trans <|
    zr_tabI (off := 313) (tgt := 345) t187_32 (by rw [qc]; decide) (by rw [qc]; decide) rfl
theorem k187_26_c10 {X : Nat × (Nat → Int32)} {I : Nat → Nat → Int32} {v3 : Int32} (q1 : zin v3 X.1 = true) (qc : (X.2 (zx v3)) &&& 31 = 10) : zr X 187 26 [.ref 0, .ref 1, .ref 160, .int v3] [] (zk I) = zr X 187 378 [.ref 0, .ref 1, .ref 160, .int v3] [] (zk I) :=
  (zr_aload_n t187_26 rfl).trans <|
    (zr_iload_n t187_27 rfl).trans <|
    (zr_sld (j := zx v3) t187_28 rfl q1).trans <|
    (zr_bipush t187_29 zcb_31).trans <|
    (zr_iand t187_31).trans <|
    zr_tabI (off := 346) (tgt := 378) t187_32 (by rw [qc]; decide) (by rw [qc]; decide) rfl
theorem k187_26_c11 {X : Nat × (Nat → Int32)} {I : Nat → Nat → Int32} {v3 : Int32} (q1 : zin v3 X.1 = true) (qc : (X.2 (zx v3)) &&& 31 = 11) : zr X 187 26 [.ref 0, .ref 1, .ref 160, .int v3] [] (zk I) = zr X 187 411 [.ref 0, .ref 1, .ref 160, .int v3] [] (zk I) :=
  (zr_aload_n t187_26 rfl).trans <|
    (zr_iload_n t187_27 rfl).trans <|
    (zr_sld (j := zx v3) t187_28 rfl q1).trans <|
    (zr_bipush t187_29 zcb_31).trans <|
    (zr_iand t187_31).trans <|
    zr_tabI (off := 379) (tgt := 411) t187_32 (by rw [qc]; decide) (by rw [qc]; decide) rfl
theorem k187_26_c12 {X : Nat × (Nat → Int32)} {I : Nat → Nat → Int32} {v3 : Int32} (q1 : zin v3 X.1 = true) (qc : (X.2 (zx v3)) &&& 31 = 12) : zr X 187 26 [.ref 0, .ref 1, .ref 160, .int v3] [] (zk I) = zr X 187 444 [.ref 0, .ref 1, .ref 160, .int v3] [] (zk I) :=
  (zr_aload_n t187_26 rfl).trans <|
    (zr_iload_n t187_27 rfl).trans <|
    (zr_sld (j := zx v3) t187_28 rfl q1).trans <|
    (zr_bipush t187_29 zcb_31).trans <|
    (zr_iand t187_31).trans <|
    zr_tabI (off := 412) (tgt := 444) t187_32 (by rw [qc]; decide) (by rw [qc]; decide) rfl
theorem k187_26_c13 {X : Nat × (Nat → Int32)} {I : Nat → Nat → Int32} {v3 : Int32} (q1 : zin v3 X.1 = true) (qc : (X.2 (zx v3)) &&& 31 = 13) : zr X 187 26 [.ref 0, .ref 1, .ref 160, .int v3] [] (zk I) = zr X 187 477 [.ref 0, .ref 1, .ref 160, .int v3] [] (zk I) :=
  (zr_aload_n t187_26 rfl).trans <|
    (zr_iload_n t187_27 rfl).trans <|
    (zr_sld (j := zx v3) t187_28 rfl q1).trans <|
    (zr_bipush t187_29 zcb_31).trans <|
    (zr_iand t187_31).trans <|
    zr_tabI (off := 445) (tgt := 477) t187_32 (by rw [qc]; decide) (by rw [qc]; decide) rfl
theorem k187_26_c14 {X : Nat × (Nat → Int32)} {I : Nat → Nat → Int32} {v3 : Int32} (q1 : zin v3 X.1 = true) (qc : (X.2 (zx v3)) &&& 31 = 14) : zr X 187 26 [.ref 0, .ref 1, .ref 160, .int v3] [] (zk I) = zr X 187 510 [.ref 0, .ref 1, .ref 160, .int v3] [] (zk I) :=
  (zr_aload_n t187_26 rfl).trans <|
    (zr_iload_n t187_27 rfl).trans <|
    (zr_sld (j := zx v3) t187_28 rfl q1).trans <|
    (zr_bipush t187_29 zcb_31).trans <|
    (zr_iand t187_31).trans <|
    zr_tabI (off := 478) (tgt := 510) t187_32 (by rw [qc]; decide) (by rw [qc]; decide) rfl
theorem k187_26_c15 {X : Nat × (Nat → Int32)} {I : Nat → Nat → Int32} {v3 : Int32} (q1 : zin v3 X.1 = true) (qc : (X.2 (zx v3)) &&& 31 = 15) : zr X 187 26 [.ref 0, .ref 1, .ref 160, .int v3] [] (zk I) = zr X 187 533 [.ref 0, .ref 1, .ref 160, .int v3] [] (zk I) :=
  (zr_aload_n t187_26 rfl).trans <|
    (zr_iload_n t187_27 rfl).trans <|
    (zr_sld (j := zx v3) t187_28 rfl q1).trans <|
    (zr_bipush t187_29 zcb_31).trans <|
    (zr_iand t187_31).trans <|
    zr_tabI (off := 501) (tgt := 533) t187_32 (by rw [qc]; decide) (by rw [qc]; decide) rfl
theorem k187_26_c16 {X : Nat × (Nat → Int32)} {I : Nat → Nat → Int32} {v3 : Int32} (q1 : zin v3 X.1 = true) (qc : (X.2 (zx v3)) &&& 31 = 16) : zr X 187 26 [.ref 0, .ref 1, .ref 160, .int v3] [] (zk I) = zr X 187 566 [.ref 0, .ref 1, .ref 160, .int v3] [] (zk I) :=
  (zr_aload_n t187_26 rfl).trans <|
    (zr_iload_n t187_27 rfl).trans <|
    (zr_sld (j := zx v3) t187_28 rfl q1).trans <|
    (zr_bipush t187_29 zcb_31).trans <|
    (zr_iand t187_31).trans <|
    zr_tabI (off := 534) (tgt := 566) t187_32 (by rw [qc]; decide) (by rw [qc]; decide) rfl
theorem k187_26_c17 {X : Nat × (Nat → Int32)} {I : Nat → Nat → Int32} {v3 : Int32} (q1 : zin v3 X.1 = true) (qc : (X.2 (zx v3)) &&& 31 = 17) : zr X 187 26 [.ref 0, .ref 1, .ref 160, .int v3] [] (zk I) = zr X 187 599 [.ref 0, .ref 1, .ref 160, .int v3] [] (zk I) :=
  (zr_aload_n t187_26 rfl).trans <|
    (zr_iload_n t187_27 rfl).trans <|
    (zr_sld (j := zx v3) t187_28 rfl q1).trans <|
    (zr_bipush t187_29 zcb_31).trans <|
    (zr_iand t187_31).trans <|
    zr_tabI (off := 567) (tgt := 599) t187_32 (by rw [qc]; decide) (by rw [qc]; decide) rfl
theorem k187_26_c18 {X : Nat × (Nat → Int32)} {I : Nat → Nat → Int32} {v3 : Int32} (q1 : zin v3 X.1 = true) (qc : (X.2 (zx v3)) &&& 31 = 18) : zr X 187 26 [.ref 0, .ref 1, .ref 160, .int v3] [] (zk I) = zr X 187 632 [.ref 0, .ref 1, .ref 160, .int v3] [] (zk I) :=
  (zr_aload_n t187_26 rfl).trans <|
    (zr_iload_n t187_27 rfl).trans <|
    (zr_sld (j := zx v3) t187_28 rfl q1).trans <|
    (zr_bipush t187_29 zcb_31).trans <|
    (zr_iand t187_31).trans <|
    zr_tabI (off := 600) (tgt := 632) t187_32 (by rw [qc]; decide) (by rw [qc]; decide) rfl
theorem k187_26_c19 {X : Nat × (Nat → Int32)} {I : Nat → Nat → Int32} {v3 : Int32} (q1 : zin v3 X.1 = true) (qc : (X.2 (zx v3)) &&& 31 = 19) : zr X 187 26 [.ref 0, .ref 1, .ref 160, .int v3] [] (zk I) = zr X 187 655 [.ref 0, .ref 1, .ref 160, .int v3] [] (zk I) :=
  (zr_aload_n t187_26 rfl).trans <|
    (zr_iload_n t187_27 rfl).trans <|
    (zr_sld (j := zx v3) t187_28 rfl q1).trans <|
    (zr_bipush t187_29 zcb_31).trans <|
    (zr_iand t187_31).trans <|
    zr_tabI (off := 623) (tgt := 655) t187_32 (by rw [qc]; decide) (by rw [qc]; decide) rfl
theorem k187_26_c20 {X : Nat × (Nat → Int32)} {I : Nat → Nat → Int32} {v3 : Int32} (q1 : zin v3 X.1 = true) (qc : (X.2 (zx v3)) &&& 31 = 20) : zr X 187 26 [.ref 0, .ref 1, .ref 160, .int v3] [] (zk I) = zr X 187 708 [.ref 0, .ref 1, .ref 160, .int v3] [] (zk I) :=
  (zr_aload_n t187_26 rfl).trans <|
    (zr_iload_n t187_27 rfl).trans <|
    (zr_sld (j := zx v3) t187_28 rfl q1).trans <|
    (zr_bipush t187_29 zcb_31).trans <|
    (zr_iand t187_31).trans <|
    zr_tabI (off := 676) (tgt := 708) t187_32 (by rw [qc]; decide) (by rw [qc]; decide) rfl
theorem k187_26_c21 {X : Nat × (Nat → Int32)} {I : Nat → Nat → Int32} {v3 : Int32} (q1 : zin v3 X.1 = true) (qc : (X.2 (zx v3)) &&& 31 = 21) : zr X 187 26 [.ref 0, .ref 1, .ref 160, .int v3] [] (zk I) = zr X 187 721 [.ref 0, .ref 1, .ref 160, .int v3] [] (zk I) :=
  (zr_aload_n t187_26 rfl).trans <|
    (zr_iload_n t187_27 rfl).trans <|
    (zr_sld (j := zx v3) t187_28 rfl q1).trans <|
    (zr_bipush t187_29 zcb_31).trans <|
    (zr_iand t187_31).trans <|
    zr_tabI (off := 689) (tgt := 721) t187_32 (by rw [qc]; decide) (by rw [qc]; decide) rfl
theorem k187_26_c22 {X : Nat × (Nat → Int32)} {I : Nat → Nat → Int32} {v3 : Int32} (q1 : zin v3 X.1 = true) (qc : (X.2 (zx v3)) &&& 31 = 22) : zr X 187 26 [.ref 0, .ref 1, .ref 160, .int v3] [] (zk I) = zr X 187 734 [.ref 0, .ref 1, .ref 160, .int v3] [] (zk I) :=
  (zr_aload_n t187_26 rfl).trans <|
    (zr_iload_n t187_27 rfl).trans <|
    (zr_sld (j := zx v3) t187_28 rfl q1).trans <|
    (zr_bipush t187_29 zcb_31).trans <|
    (zr_iand t187_31).trans <|
    zr_tabI (off := 702) (tgt := 734) t187_32 (by rw [qc]; decide) (by rw [qc]; decide) rfl
theorem k187_26_c23 {X : Nat × (Nat → Int32)} {I : Nat → Nat → Int32} {v3 : Int32} (q1 : zin v3 X.1 = true) (qc : (X.2 (zx v3)) &&& 31 = 23) : zr X 187 26 [.ref 0, .ref 1, .ref 160, .int v3] [] (zk I) = zr X 187 747 [.ref 0, .ref 1, .ref 160, .int v3] [] (zk I) :=
  (zr_aload_n t187_26 rfl).trans <|
    (zr_iload_n t187_27 rfl).trans <|
    (zr_sld (j := zx v3) t187_28 rfl q1).trans <|
    (zr_bipush t187_29 zcb_31).trans <|
    (zr_iand t187_31).trans <|
    zr_tabI (off := 715) (tgt := 747) t187_32 (by rw [qc]; decide) (by rw [qc]; decide) rfl
theorem k187_26_c24 {X : Nat × (Nat → Int32)} {I : Nat → Nat → Int32} {v3 : Int32} (q1 : zin v3 X.1 = true) (qc : (X.2 (zx v3)) &&& 31 = 24) : zr X 187 26 [.ref 0, .ref 1, .ref 160, .int v3] [] (zk I) = zr X 187 770 [.ref 0, .ref 1, .ref 160, .int v3] [] (zk I) :=
  (zr_aload_n t187_26 rfl).trans <|
    (zr_iload_n t187_27 rfl).trans <|
    (zr_sld (j := zx v3) t187_28 rfl q1).trans <|
    (zr_bipush t187_29 zcb_31).trans <|
    (zr_iand t187_31).trans <|
    zr_tabI (off := 738) (tgt := 770) t187_32 (by rw [qc]; decide) (by rw [qc]; decide) rfl
theorem k187_26_d {X : Nat × (Nat → Int32)} {I : Nat → Nat → Int32} {v3 : Int32} (q1 : zin v3 X.1 = true) (qd : ((X.2 (zx v3)) &&& 31).toInt < 0 ∨ 24 < ((X.2 (zx v3)) &&& 31).toInt) : zr X 187 26 [.ref 0, .ref 1, .ref 160, .int v3] [] (zk I) = zr X 187 793 [.ref 0, .ref 1, .ref 160, .int v3] [] (zk I) :=
  (zr_aload_n t187_26 rfl).trans <|
    (zr_iload_n t187_27 rfl).trans <|
    (zr_sld (j := zx v3) t187_28 rfl q1).trans <|
    (zr_bipush t187_29 zcb_31).trans <|
    (zr_iand t187_31).trans <|
    zr_tabO (tgt := 793) t187_32 qd rfl
theorem k187_148 {X : Nat × (Nat → Int32)} {I : Nat → Nat → Int32} {v3 : Int32}  : zr X 187 148 [.ref 0, .ref 1, .ref 160, .int v3] [] (zk I) = zcb (zr X 88 0 [.ref 1] [] (zk I)) (fun v m1 => zr X 187 152 [.ref 0, .ref 1, .ref 160, .int v3] (v.toList ++ []) m1) :=
  (zr_aload_n t187_148 rfl).trans <|
    zr_callv t187_149 rfl rfl rfl rfl
theorem k187_152 {X : Nat × (Nat → Int32)} {I : Nat → Nat → Int32} {v3 : Int32} {s0 : Int32}  : zr X 187 152 [.ref 0, .ref 1, .ref 160, .int v3] [.int s0] (zk I) = zcb (zr X 136 0 [.ref 160, .null] [] (zk I)) (fun v m1 => zr X 187 156 [.ref 0, .ref 1, .ref 160, .int v3] (v.toList ++ [.int s0]) m1) :=
  (zr_aload_n t187_152 rfl).trans <|
    zr_callv t187_153 rfl rfl rfl rfl
theorem k187_156 {X : Nat × (Nat → Int32)} {I : Nat → Nat → Int32} {v3 : Int32} {s0 : Int32} {s1 : Int32}  : zr X 187 156 [.ref 0, .ref 1, .ref 160, .int v3] [.int s1, .int s0] (zk I) = if s0 = s1 then zr X 187 793 [.ref 0, .ref 1, .ref 160, .int v3] [] (zk I) else zr X 187 159 [.ref 0, .ref 1, .ref 160, .int v3] [] (zk I) :=
  zr_ic_eq (tgt := 793) t187_156 rfl
theorem k187_159 {X : Nat × (Nat → Int32)} {I : Nat → Nat → Int32} {v3 : Int32}  : zr X 187 159 [.ref 0, .ref 1, .ref 160, .int v3] [] (zk I) = some (some (.int 0), zk I) :=
  (zr_iconst t187_159 zci_0).trans <|
    zr_zret t187_160 rfl (Or.inl rfl)
theorem k187_161 {X : Nat × (Nat → Int32)} {I : Nat → Nat → Int32} {v3 : Int32} (q1 : zin (v3 + 1) X.1 = true) (q2 : zin (v3 + 2) X.1 = true) : zr X 187 161 [.ref 0, .ref 1, .ref 160, .int v3] [] (zk I) = zcb (zr X 89 0 [.ref 1, .int (X.2 (zx (v3 + 1))), .int (X.2 (zx (v3 + 2))), .null] [] (zk I)) (fun v m1 => zr X 187 175 [.ref 0, .ref 1, .ref 160, .int v3] (v.toList ++ []) m1) :=
  (zr_aload_n t187_161 rfl).trans <|
    (zr_aload_n t187_162 rfl).trans <|
    (zr_iload_n t187_163 rfl).trans <|
    (zr_iconst t187_164 zci_1).trans <|
    (zr_iadd t187_165).trans <|
    (zr_sld (j := zx (v3 + 1)) t187_166 rfl q1).trans <|
    (zr_aload_n t187_167 rfl).trans <|
    (zr_iload_n t187_168 rfl).trans <|
    (zr_iconst t187_169 zci_2).trans <|
    (zr_iadd t187_170).trans <|
    (zr_sld (j := zx (v3 + 2)) t187_171 rfl q2).trans <|
    zr_callv t187_172 rfl rfl rfl rfl
theorem k187_175 {X : Nat × (Nat → Int32)} {I : Nat → Nat → Int32} {v3 : Int32} {s0 : Int32} (q1 : zin (v3 + 1) X.1 = true) (q2 : zin (v3 + 2) X.1 = true) : zr X 187 175 [.ref 0, .ref 1, .ref 160, .int v3] [.int s0] (zk I) = zcb (zr X 137 0 [.ref 160, .int (X.2 (zx (v3 + 1))), .int (X.2 (zx (v3 + 2))), .null] [] (zk I)) (fun v m1 => zr X 187 189 [.ref 0, .ref 1, .ref 160, .int v3] (v.toList ++ [.int s0]) m1) :=
  (zr_aload_n t187_175 rfl).trans <|
    (zr_aload_n t187_176 rfl).trans <|
    (zr_iload_n t187_177 rfl).trans <|
    (zr_iconst t187_178 zci_1).trans <|
    (zr_iadd t187_179).trans <|
    (zr_sld (j := zx (v3 + 1)) t187_180 rfl q1).trans <|
    (zr_aload_n t187_181 rfl).trans <|
    (zr_iload_n t187_182 rfl).trans <|
    (zr_iconst t187_183 zci_2).trans <|
    (zr_iadd t187_184).trans <|
    (zr_sld (j := zx (v3 + 2)) t187_185 rfl q2).trans <|
    zr_callv t187_186 rfl rfl rfl rfl
theorem k187_189 {X : Nat × (Nat → Int32)} {I : Nat → Nat → Int32} {v3 : Int32} {s0 : Int32} {s1 : Int32}  : zr X 187 189 [.ref 0, .ref 1, .ref 160, .int v3] [.int s1, .int s0] (zk I) = if s0 = s1 then zr X 187 793 [.ref 0, .ref 1, .ref 160, .int v3] [] (zk I) else zr X 187 192 [.ref 0, .ref 1, .ref 160, .int v3] [] (zk I) :=
  zr_ic_eq (tgt := 793) t187_189 rfl
theorem k187_192 {X : Nat × (Nat → Int32)} {I : Nat → Nat → Int32} {v3 : Int32}  : zr X 187 192 [.ref 0, .ref 1, .ref 160, .int v3] [] (zk I) = some (some (.int 0), zk I) :=
  (zr_iconst t187_192 zci_0).trans <|
    zr_zret t187_193 rfl (Or.inl rfl)
theorem k187_194 {X : Nat × (Nat → Int32)} {I : Nat → Nat → Int32} {v3 : Int32}  : zr X 187 194 [.ref 0, .ref 1, .ref 160, .int v3] [] (zk I) = zcb (zr X 90 0 [.ref 1, .null] [] (zk I)) (fun v m1 => zr X 187 198 [.ref 0, .ref 1, .ref 160, .int v3] (v.toList ++ []) m1) :=
  (zr_aload_n t187_194 rfl).trans <|
    zr_callv t187_195 rfl rfl rfl rfl
theorem k187_198 {X : Nat × (Nat → Int32)} {I : Nat → Nat → Int32} {v3 : Int32} {s0 : Int32}  : zr X 187 198 [.ref 0, .ref 1, .ref 160, .int v3] [.int s0] (zk I) = zcb (zr X 142 0 [.ref 160, .null] [] (zk I)) (fun v m1 => zr X 187 202 [.ref 0, .ref 1, .ref 160, .int v3] (v.toList ++ [.int s0]) m1) :=
  (zr_aload_n t187_198 rfl).trans <|
    zr_callv t187_199 rfl rfl rfl rfl
theorem k187_202 {X : Nat × (Nat → Int32)} {I : Nat → Nat → Int32} {v3 : Int32} {s0 : Int32} {s1 : Int32}  : zr X 187 202 [.ref 0, .ref 1, .ref 160, .int v3] [.int s1, .int s0] (zk I) = if s0 = s1 then zr X 187 793 [.ref 0, .ref 1, .ref 160, .int v3] [] (zk I) else zr X 187 205 [.ref 0, .ref 1, .ref 160, .int v3] [] (zk I) :=
  zr_ic_eq (tgt := 793) t187_202 rfl
theorem k187_205 {X : Nat × (Nat → Int32)} {I : Nat → Nat → Int32} {v3 : Int32}  : zr X 187 205 [.ref 0, .ref 1, .ref 160, .int v3] [] (zk I) = some (some (.int 0), zk I) :=
  (zr_iconst t187_205 zci_0).trans <|
    zr_zret t187_206 rfl (Or.inl rfl)
theorem k187_207 {X : Nat × (Nat → Int32)} {I : Nat → Nat → Int32} {v3 : Int32} (q1 : zin (v3 + 1) X.1 = true) (q2 : zin (v3 + 2) X.1 = true) (q3 : zin (v3 + 3) X.1 = true) : zr X 187 207 [.ref 0, .ref 1, .ref 160, .int v3] [] (zk I) = zcb (zr X 91 0 [.ref 1, .int (X.2 (zx (v3 + 1))), .int (X.2 (zx (v3 + 2))), .int (X.2 (zx (v3 + 3))), .null] [] (zk I)) (fun v m1 => zr X 187 226 [.ref 0, .ref 1, .ref 160, .int v3] (v.toList ++ []) m1) :=
  (zr_aload_n t187_207 rfl).trans <|
    (zr_aload_n t187_208 rfl).trans <|
    (zr_iload_n t187_209 rfl).trans <|
    (zr_iconst t187_210 zci_1).trans <|
    (zr_iadd t187_211).trans <|
    (zr_sld (j := zx (v3 + 1)) t187_212 rfl q1).trans <|
    (zr_aload_n t187_213 rfl).trans <|
    (zr_iload_n t187_214 rfl).trans <|
    (zr_iconst t187_215 zci_2).trans <|
    (zr_iadd t187_216).trans <|
    (zr_sld (j := zx (v3 + 2)) t187_217 rfl q2).trans <|
    (zr_aload_n t187_218 rfl).trans <|
    (zr_iload_n t187_219 rfl).trans <|
    (zr_iconst t187_220 zci_3).trans <|
    (zr_iadd t187_221).trans <|
    (zr_sld (j := zx (v3 + 3)) t187_222 rfl q3).trans <|
    zr_callv t187_223 rfl rfl rfl rfl
theorem k187_226 {X : Nat × (Nat → Int32)} {I : Nat → Nat → Int32} {v3 : Int32} {s0 : Int32} (q1 : zin (v3 + 1) X.1 = true) (q2 : zin (v3 + 2) X.1 = true) (q3 : zin (v3 + 3) X.1 = true) : zr X 187 226 [.ref 0, .ref 1, .ref 160, .int v3] [.int s0] (zk I) = zcb (zr X 143 0 [.ref 160, .int (X.2 (zx (v3 + 1))), .int (X.2 (zx (v3 + 2))), .int (X.2 (zx (v3 + 3))), .null] [] (zk I)) (fun v m1 => zr X 187 245 [.ref 0, .ref 1, .ref 160, .int v3] (v.toList ++ [.int s0]) m1) :=
  (zr_aload_n t187_226 rfl).trans <|
    (zr_aload_n t187_227 rfl).trans <|
    (zr_iload_n t187_228 rfl).trans <|
    (zr_iconst t187_229 zci_1).trans <|
    (zr_iadd t187_230).trans <|
    (zr_sld (j := zx (v3 + 1)) t187_231 rfl q1).trans <|
    (zr_aload_n t187_232 rfl).trans <|
    (zr_iload_n t187_233 rfl).trans <|
    (zr_iconst t187_234 zci_2).trans <|
    (zr_iadd t187_235).trans <|
    (zr_sld (j := zx (v3 + 2)) t187_236 rfl q2).trans <|
    (zr_aload_n t187_237 rfl).trans <|
    (zr_iload_n t187_238 rfl).trans <|
    (zr_iconst t187_239 zci_3).trans <|
    (zr_iadd t187_240).trans <|
    (zr_sld (j := zx (v3 + 3)) t187_241 rfl q3).trans <|
    zr_callv t187_242 rfl rfl rfl rfl
theorem k187_245 {X : Nat × (Nat → Int32)} {I : Nat → Nat → Int32} {v3 : Int32} {s0 : Int32} {s1 : Int32}  : zr X 187 245 [.ref 0, .ref 1, .ref 160, .int v3] [.int s1, .int s0] (zk I) = if s0 = s1 then zr X 187 793 [.ref 0, .ref 1, .ref 160, .int v3] [] (zk I) else zr X 187 248 [.ref 0, .ref 1, .ref 160, .int v3] [] (zk I) :=
  zr_ic_eq (tgt := 793) t187_245 rfl
theorem k187_248 {X : Nat × (Nat → Int32)} {I : Nat → Nat → Int32} {v3 : Int32}  : zr X 187 248 [.ref 0, .ref 1, .ref 160, .int v3] [] (zk I) = some (some (.int 0), zk I) :=
  (zr_iconst t187_248 zci_0).trans <|
    zr_zret t187_249 rfl (Or.inl rfl)
theorem k187_250 {X : Nat × (Nat → Int32)} {I : Nat → Nat → Int32} {v3 : Int32} (q1 : zin (v3 + 1) X.1 = true) : zr X 187 250 [.ref 0, .ref 1, .ref 160, .int v3] [] (zk I) = zcb (zr X 92 0 [.ref 1, .int (X.2 (zx (v3 + 1)))] [] (zk I)) (fun v m1 => zr X 187 259 [.ref 0, .ref 1, .ref 160, .int v3] (v.toList ++ []) m1) :=
  (zr_aload_n t187_250 rfl).trans <|
    (zr_aload_n t187_251 rfl).trans <|
    (zr_iload_n t187_252 rfl).trans <|
    (zr_iconst t187_253 zci_1).trans <|
    (zr_iadd t187_254).trans <|
    (zr_sld (j := zx (v3 + 1)) t187_255 rfl q1).trans <|
    zr_callv t187_256 rfl rfl rfl rfl
theorem k187_259 {X : Nat × (Nat → Int32)} {I : Nat → Nat → Int32} {v3 : Int32} {s0 : Int32} (q1 : zin (v3 + 1) X.1 = true) : zr X 187 259 [.ref 0, .ref 1, .ref 160, .int v3] [.int s0] (zk I) = zcb (zr X 146 0 [.ref 160, .int (X.2 (zx (v3 + 1)))] [] (zk I)) (fun v m1 => zr X 187 268 [.ref 0, .ref 1, .ref 160, .int v3] (v.toList ++ [.int s0]) m1) :=
  (zr_aload_n t187_259 rfl).trans <|
    (zr_aload_n t187_260 rfl).trans <|
    (zr_iload_n t187_261 rfl).trans <|
    (zr_iconst t187_262 zci_1).trans <|
    (zr_iadd t187_263).trans <|
    (zr_sld (j := zx (v3 + 1)) t187_264 rfl q1).trans <|
    zr_callv t187_265 rfl rfl rfl rfl
theorem k187_268 {X : Nat × (Nat → Int32)} {I : Nat → Nat → Int32} {v3 : Int32} {s0 : Int32} {s1 : Int32}  : zr X 187 268 [.ref 0, .ref 1, .ref 160, .int v3] [.int s1, .int s0] (zk I) = if s0 = s1 then zr X 187 793 [.ref 0, .ref 1, .ref 160, .int v3] [] (zk I) else zr X 187 271 [.ref 0, .ref 1, .ref 160, .int v3] [] (zk I) :=
  zr_ic_eq (tgt := 793) t187_268 rfl
theorem k187_271 {X : Nat × (Nat → Int32)} {I : Nat → Nat → Int32} {v3 : Int32}  : zr X 187 271 [.ref 0, .ref 1, .ref 160, .int v3] [] (zk I) = some (some (.int 0), zk I) :=
  (zr_iconst t187_271 zci_0).trans <|
    zr_zret t187_272 rfl (Or.inl rfl)
theorem k187_273 {X : Nat × (Nat → Int32)} {I : Nat → Nat → Int32} {v3 : Int32} (q1 : zin (v3 + 1) X.1 = true) : zr X 187 273 [.ref 0, .ref 1, .ref 160, .int v3] [] (zk I) = zcb (zr X 93 0 [.ref 1, .int (X.2 (zx (v3 + 1)))] [] (zk I)) (fun v m1 => zr X 187 282 [.ref 0, .ref 1, .ref 160, .int v3] (v.toList ++ []) m1) :=
  (zr_aload_n t187_273 rfl).trans <|
    (zr_aload_n t187_274 rfl).trans <|
    (zr_iload_n t187_275 rfl).trans <|
    (zr_iconst t187_276 zci_1).trans <|
    (zr_iadd t187_277).trans <|
    (zr_sld (j := zx (v3 + 1)) t187_278 rfl q1).trans <|
    zr_callv t187_279 rfl rfl rfl rfl
theorem k187_282 {X : Nat × (Nat → Int32)} {I : Nat → Nat → Int32} {v3 : Int32} {s0 : Int32} (q1 : zin (v3 + 1) X.1 = true) : zr X 187 282 [.ref 0, .ref 1, .ref 160, .int v3] [.int s0] (zk I) = zcb (zr X 148 0 [.ref 160, .int (X.2 (zx (v3 + 1)))] [] (zk I)) (fun v m1 => zr X 187 291 [.ref 0, .ref 1, .ref 160, .int v3] (v.toList ++ [.int s0]) m1) :=
  (zr_aload_n t187_282 rfl).trans <|
    (zr_aload_n t187_283 rfl).trans <|
    (zr_iload_n t187_284 rfl).trans <|
    (zr_iconst t187_285 zci_1).trans <|
    (zr_iadd t187_286).trans <|
    (zr_sld (j := zx (v3 + 1)) t187_287 rfl q1).trans <|
    zr_callv t187_288 rfl rfl rfl rfl
theorem k187_291 {X : Nat × (Nat → Int32)} {I : Nat → Nat → Int32} {v3 : Int32} {s0 : Int32} {s1 : Int32}  : zr X 187 291 [.ref 0, .ref 1, .ref 160, .int v3] [.int s1, .int s0] (zk I) = if s0 = s1 then zr X 187 793 [.ref 0, .ref 1, .ref 160, .int v3] [] (zk I) else zr X 187 294 [.ref 0, .ref 1, .ref 160, .int v3] [] (zk I) :=
  zr_ic_eq (tgt := 793) t187_291 rfl
theorem k187_294 {X : Nat × (Nat → Int32)} {I : Nat → Nat → Int32} {v3 : Int32}  : zr X 187 294 [.ref 0, .ref 1, .ref 160, .int v3] [] (zk I) = some (some (.int 0), zk I) :=
  (zr_iconst t187_294 zci_0).trans <|
    zr_zret t187_295 rfl (Or.inl rfl)
theorem k187_296 {X : Nat × (Nat → Int32)} {I : Nat → Nat → Int32} {v3 : Int32} (q1 : zin (v3 + 1) X.1 = true) : zr X 187 296 [.ref 0, .ref 1, .ref 160, .int v3] [] (zk I) = zcb (zr X 94 0 [.ref 1, .int (X.2 (zx (v3 + 1)))] [] (zk I)) (fun v m1 => zr X 187 305 [.ref 0, .ref 1, .ref 160, .int v3] (v.toList ++ []) m1) :=
  (zr_aload_n t187_296 rfl).trans <|
    (zr_aload_n t187_297 rfl).trans <|
    (zr_iload_n t187_298 rfl).trans <|
    (zr_iconst t187_299 zci_1).trans <|
    (zr_iadd t187_300).trans <|
    (zr_sld (j := zx (v3 + 1)) t187_301 rfl q1).trans <|
    zr_callv t187_302 rfl rfl rfl rfl
theorem k187_305 {X : Nat × (Nat → Int32)} {I : Nat → Nat → Int32} {v3 : Int32} {s0 : Int32} (q1 : zin (v3 + 1) X.1 = true) : zr X 187 305 [.ref 0, .ref 1, .ref 160, .int v3] [.int s0] (zk I) = zcb (zr X 150 0 [.ref 160, .int (X.2 (zx (v3 + 1)))] [] (zk I)) (fun v m1 => zr X 187 314 [.ref 0, .ref 1, .ref 160, .int v3] (v.toList ++ [.int s0]) m1) :=
  (zr_aload_n t187_305 rfl).trans <|
    (zr_aload_n t187_306 rfl).trans <|
    (zr_iload_n t187_307 rfl).trans <|
    (zr_iconst t187_308 zci_1).trans <|
    (zr_iadd t187_309).trans <|
    (zr_sld (j := zx (v3 + 1)) t187_310 rfl q1).trans <|
    zr_callv t187_311 rfl rfl rfl rfl
theorem k187_314 {X : Nat × (Nat → Int32)} {I : Nat → Nat → Int32} {v3 : Int32} {s0 : Int32} {s1 : Int32}  : zr X 187 314 [.ref 0, .ref 1, .ref 160, .int v3] [.int s1, .int s0] (zk I) = if s0 = s1 then zr X 187 793 [.ref 0, .ref 1, .ref 160, .int v3] [] (zk I) else zr X 187 317 [.ref 0, .ref 1, .ref 160, .int v3] [] (zk I) :=
  zr_ic_eq (tgt := 793) t187_314 rfl
theorem k187_317 {X : Nat × (Nat → Int32)} {I : Nat → Nat → Int32} {v3 : Int32}  : zr X 187 317 [.ref 0, .ref 1, .ref 160, .int v3] [] (zk I) = some (some (.int 0), zk I) :=
  (zr_iconst t187_317 zci_0).trans <|
    zr_zret t187_318 rfl (Or.inl rfl)
theorem k187_319 {X : Nat × (Nat → Int32)} {I : Nat → Nat → Int32} {v3 : Int32}  : zr X 187 319 [.ref 0, .ref 1, .ref 160, .int v3] [] (zk I) = zcb (zr X 95 0 [.ref 1] [] (zk I)) (fun v m1 => zr X 187 323 [.ref 0, .ref 1, .ref 160, .int v3] (v.toList ++ []) m1) :=
  (zr_aload_n t187_319 rfl).trans <|
    zr_callv t187_320 rfl rfl rfl rfl
theorem k187_323 {X : Nat × (Nat → Int32)} {I : Nat → Nat → Int32} {v3 : Int32} {s0 : Int32}  : zr X 187 323 [.ref 0, .ref 1, .ref 160, .int v3] [.int s0] (zk I) = zcb (zr X 153 0 [.ref 160] [] (zk I)) (fun v m1 => zr X 187 327 [.ref 0, .ref 1, .ref 160, .int v3] (v.toList ++ [.int s0]) m1) :=
  (zr_aload_n t187_323 rfl).trans <|
    zr_callv t187_324 rfl rfl rfl rfl
theorem k187_327 {X : Nat × (Nat → Int32)} {I : Nat → Nat → Int32} {v3 : Int32} {s0 : Int32} {s1 : Int32}  : zr X 187 327 [.ref 0, .ref 1, .ref 160, .int v3] [.int s1, .int s0] (zk I) = if s0 = s1 then zr X 187 793 [.ref 0, .ref 1, .ref 160, .int v3] [] (zk I) else zr X 187 330 [.ref 0, .ref 1, .ref 160, .int v3] [] (zk I) :=
  zr_ic_eq (tgt := 793) t187_327 rfl
theorem k187_330 {X : Nat × (Nat → Int32)} {I : Nat → Nat → Int32} {v3 : Int32}  : zr X 187 330 [.ref 0, .ref 1, .ref 160, .int v3] [] (zk I) = some (some (.int 0), zk I) :=
  (zr_iconst t187_330 zci_0).trans <|
    zr_zret t187_331 rfl (Or.inl rfl)
theorem k187_332 {X : Nat × (Nat → Int32)} {I : Nat → Nat → Int32} {v3 : Int32}  : zr X 187 332 [.ref 0, .ref 1, .ref 160, .int v3] [] (zk I) = zcb (zr X 96 0 [.ref 1] [] (zk I)) (fun v m1 => zr X 187 336 [.ref 0, .ref 1, .ref 160, .int v3] (v.toList ++ []) m1) :=
  (zr_aload_n t187_332 rfl).trans <|
    zr_callv t187_333 rfl rfl rfl rfl
theorem k187_336 {X : Nat × (Nat → Int32)} {I : Nat → Nat → Int32} {v3 : Int32} {s0 : Int32}  : zr X 187 336 [.ref 0, .ref 1, .ref 160, .int v3] [.int s0] (zk I) = zcb (zr X 156 0 [.ref 160, .null] [] (zk I)) (fun v m1 => zr X 187 340 [.ref 0, .ref 1, .ref 160, .int v3] (v.toList ++ [.int s0]) m1) :=
  (zr_aload_n t187_336 rfl).trans <|
    zr_callv t187_337 rfl rfl rfl rfl
theorem k187_340 {X : Nat × (Nat → Int32)} {I : Nat → Nat → Int32} {v3 : Int32} {s0 : Int32} {s1 : Int32}  : zr X 187 340 [.ref 0, .ref 1, .ref 160, .int v3] [.int s1, .int s0] (zk I) = if s0 = s1 then zr X 187 793 [.ref 0, .ref 1, .ref 160, .int v3] [] (zk I) else zr X 187 343 [.ref 0, .ref 1, .ref 160, .int v3] [] (zk I) :=
  zr_ic_eq (tgt := 793) t187_340 rfl
theorem k187_343 {X : Nat × (Nat → Int32)} {I : Nat → Nat → Int32} {v3 : Int32}  : zr X 187 343 [.ref 0, .ref 1, .ref 160, .int v3] [] (zk I) = some (some (.int 0), zk I) :=
  (zr_iconst t187_343 zci_0).trans <|
    zr_zret t187_344 rfl (Or.inl rfl)
theorem k187_345 {X : Nat × (Nat → Int32)} {I : Nat → Nat → Int32} {v3 : Int32} (q1 : zin (v3 + 1) X.1 = true) (q2 : zin (v3 + 2) X.1 = true) : zr X 187 345 [.ref 0, .ref 1, .ref 160, .int v3] [] (zk I) = zcb (zr X 97 0 [.ref 1, .int (X.2 (zx (v3 + 1))), .int (X.2 (zx (v3 + 2)))] [] (zk I)) (fun v m1 => zr X 187 359 [.ref 0, .ref 1, .ref 160, .int v3] (v.toList ++ []) m1) :=
  (zr_aload_n t187_345 rfl).trans <|
    (zr_aload_n t187_346 rfl).trans <|
    (zr_iload_n t187_347 rfl).trans <|
    (zr_iconst t187_348 zci_1).trans <|
    (zr_iadd t187_349).trans <|
    (zr_sld (j := zx (v3 + 1)) t187_350 rfl q1).trans <|
    (zr_aload_n t187_351 rfl).trans <|
    (zr_iload_n t187_352 rfl).trans <|
    (zr_iconst t187_353 zci_2).trans <|
    (zr_iadd t187_354).trans <|
    (zr_sld (j := zx (v3 + 2)) t187_355 rfl q2).trans <|
    zr_callv t187_356 rfl rfl rfl rfl
theorem k187_359 {X : Nat × (Nat → Int32)} {I : Nat → Nat → Int32} {v3 : Int32} {s0 : Int32} (q1 : zin (v3 + 1) X.1 = true) (q2 : zin (v3 + 2) X.1 = true) : zr X 187 359 [.ref 0, .ref 1, .ref 160, .int v3] [.int s0] (zk I) = zcb (zr X 157 0 [.ref 160, .int (X.2 (zx (v3 + 1))), .int (X.2 (zx (v3 + 2)))] [] (zk I)) (fun v m1 => zr X 187 373 [.ref 0, .ref 1, .ref 160, .int v3] (v.toList ++ [.int s0]) m1) :=
  (zr_aload_n t187_359 rfl).trans <|
    (zr_aload_n t187_360 rfl).trans <|
    (zr_iload_n t187_361 rfl).trans <|
    (zr_iconst t187_362 zci_1).trans <|
    (zr_iadd t187_363).trans <|
    (zr_sld (j := zx (v3 + 1)) t187_364 rfl q1).trans <|
    (zr_aload_n t187_365 rfl).trans <|
    (zr_iload_n t187_366 rfl).trans <|
    (zr_iconst t187_367 zci_2).trans <|
    (zr_iadd t187_368).trans <|
    (zr_sld (j := zx (v3 + 2)) t187_369 rfl q2).trans <|
    zr_callv t187_370 rfl rfl rfl rfl
theorem k187_373 {X : Nat × (Nat → Int32)} {I : Nat → Nat → Int32} {v3 : Int32} {s0 : Int32} {s1 : Int32}  : zr X 187 373 [.ref 0, .ref 1, .ref 160, .int v3] [.int s1, .int s0] (zk I) = if s0 = s1 then zr X 187 793 [.ref 0, .ref 1, .ref 160, .int v3] [] (zk I) else zr X 187 376 [.ref 0, .ref 1, .ref 160, .int v3] [] (zk I) :=
  zr_ic_eq (tgt := 793) t187_373 rfl
theorem k187_376 {X : Nat × (Nat → Int32)} {I : Nat → Nat → Int32} {v3 : Int32}  : zr X 187 376 [.ref 0, .ref 1, .ref 160, .int v3] [] (zk I) = some (some (.int 0), zk I) :=
  (zr_iconst t187_376 zci_0).trans <|
    zr_zret t187_377 rfl (Or.inl rfl)
theorem k187_378 {X : Nat × (Nat → Int32)} {I : Nat → Nat → Int32} {v3 : Int32} (q1 : zin (v3 + 1) X.1 = true) (q2 : zin (v3 + 2) X.1 = true) : zr X 187 378 [.ref 0, .ref 1, .ref 160, .int v3] [] (zk I) = zcb (zr X 98 0 [.ref 1, .int (X.2 (zx (v3 + 1))), .int (X.2 (zx (v3 + 2)))] [] (zk I)) (fun v m1 => zr X 187 392 [.ref 0, .ref 1, .ref 160, .int v3] (v.toList ++ []) m1) :=
  (zr_aload_n t187_378 rfl).trans <|
    (zr_aload_n t187_379 rfl).trans <|
    (zr_iload_n t187_380 rfl).trans <|
    (zr_iconst t187_381 zci_1).trans <|
    (zr_iadd t187_382).trans <|
    (zr_sld (j := zx (v3 + 1)) t187_383 rfl q1).trans <|
    (zr_aload_n t187_384 rfl).trans <|
    (zr_iload_n t187_385 rfl).trans <|
    (zr_iconst t187_386 zci_2).trans <|
    (zr_iadd t187_387).trans <|
    (zr_sld (j := zx (v3 + 2)) t187_388 rfl q2).trans <|
    zr_callv t187_389 rfl rfl rfl rfl
theorem k187_392 {X : Nat × (Nat → Int32)} {I : Nat → Nat → Int32} {v3 : Int32} {s0 : Int32} (q1 : zin (v3 + 1) X.1 = true) (q2 : zin (v3 + 2) X.1 = true) : zr X 187 392 [.ref 0, .ref 1, .ref 160, .int v3] [.int s0] (zk I) = zcb (zr X 158 0 [.ref 160, .int (X.2 (zx (v3 + 1))), .int (X.2 (zx (v3 + 2)))] [] (zk I)) (fun v m1 => zr X 187 406 [.ref 0, .ref 1, .ref 160, .int v3] (v.toList ++ [.int s0]) m1) :=
  (zr_aload_n t187_392 rfl).trans <|
    (zr_aload_n t187_393 rfl).trans <|
    (zr_iload_n t187_394 rfl).trans <|
    (zr_iconst t187_395 zci_1).trans <|
    (zr_iadd t187_396).trans <|
    (zr_sld (j := zx (v3 + 1)) t187_397 rfl q1).trans <|
    (zr_aload_n t187_398 rfl).trans <|
    (zr_iload_n t187_399 rfl).trans <|
    (zr_iconst t187_400 zci_2).trans <|
    (zr_iadd t187_401).trans <|
    (zr_sld (j := zx (v3 + 2)) t187_402 rfl q2).trans <|
    zr_callv t187_403 rfl rfl rfl rfl
theorem k187_406 {X : Nat × (Nat → Int32)} {I : Nat → Nat → Int32} {v3 : Int32} {s0 : Int32} {s1 : Int32}  : zr X 187 406 [.ref 0, .ref 1, .ref 160, .int v3] [.int s1, .int s0] (zk I) = if s0 = s1 then zr X 187 793 [.ref 0, .ref 1, .ref 160, .int v3] [] (zk I) else zr X 187 409 [.ref 0, .ref 1, .ref 160, .int v3] [] (zk I) :=
  zr_ic_eq (tgt := 793) t187_406 rfl
theorem k187_409 {X : Nat × (Nat → Int32)} {I : Nat → Nat → Int32} {v3 : Int32}  : zr X 187 409 [.ref 0, .ref 1, .ref 160, .int v3] [] (zk I) = some (some (.int 0), zk I) :=
  (zr_iconst t187_409 zci_0).trans <|
    zr_zret t187_410 rfl (Or.inl rfl)
theorem k187_411 {X : Nat × (Nat → Int32)} {I : Nat → Nat → Int32} {v3 : Int32} (q1 : zin (v3 + 1) X.1 = true) (q2 : zin (v3 + 2) X.1 = true) : zr X 187 411 [.ref 0, .ref 1, .ref 160, .int v3] [] (zk I) = zcb (zr X 99 0 [.ref 1, .int (X.2 (zx (v3 + 1))), .int (X.2 (zx (v3 + 2))), .null] [] (zk I)) (fun v m1 => zr X 187 425 [.ref 0, .ref 1, .ref 160, .int v3] (v.toList ++ []) m1) :=
  (zr_aload_n t187_411 rfl).trans <|
    (zr_aload_n t187_412 rfl).trans <|
    (zr_iload_n t187_413 rfl).trans <|
    (zr_iconst t187_414 zci_1).trans <|
    (zr_iadd t187_415).trans <|
    (zr_sld (j := zx (v3 + 1)) t187_416 rfl q1).trans <|
    (zr_aload_n t187_417 rfl).trans <|
    (zr_iload_n t187_418 rfl).trans <|
    (zr_iconst t187_419 zci_2).trans <|
    (zr_iadd t187_420).trans <|
    (zr_sld (j := zx (v3 + 2)) t187_421 rfl q2).trans <|
    zr_callv t187_422 rfl rfl rfl rfl
theorem k187_425 {X : Nat × (Nat → Int32)} {I : Nat → Nat → Int32} {v3 : Int32} {s0 : Int32} (q1 : zin (v3 + 1) X.1 = true) (q2 : zin (v3 + 2) X.1 = true) : zr X 187 425 [.ref 0, .ref 1, .ref 160, .int v3] [.int s0] (zk I) = zcb (zr X 160 0 [.ref 160, .int (X.2 (zx (v3 + 1))), .int (X.2 (zx (v3 + 2)))] [] (zk I)) (fun v m1 => zr X 187 439 [.ref 0, .ref 1, .ref 160, .int v3] (v.toList ++ [.int s0]) m1) :=
  (zr_aload_n t187_425 rfl).trans <|
    (zr_aload_n t187_426 rfl).trans <|
    (zr_iload_n t187_427 rfl).trans <|
    (zr_iconst t187_428 zci_1).trans <|
    (zr_iadd t187_429).trans <|
    (zr_sld (j := zx (v3 + 1)) t187_430 rfl q1).trans <|
    (zr_aload_n t187_431 rfl).trans <|
    (zr_iload_n t187_432 rfl).trans <|
    (zr_iconst t187_433 zci_2).trans <|
    (zr_iadd t187_434).trans <|
    (zr_sld (j := zx (v3 + 2)) t187_435 rfl q2).trans <|
    zr_callv t187_436 rfl rfl rfl rfl
theorem k187_439 {X : Nat × (Nat → Int32)} {I : Nat → Nat → Int32} {v3 : Int32} {s0 : Int32} {s1 : Int32}  : zr X 187 439 [.ref 0, .ref 1, .ref 160, .int v3] [.int s1, .int s0] (zk I) = if s0 = s1 then zr X 187 793 [.ref 0, .ref 1, .ref 160, .int v3] [] (zk I) else zr X 187 442 [.ref 0, .ref 1, .ref 160, .int v3] [] (zk I) :=
  zr_ic_eq (tgt := 793) t187_439 rfl
theorem k187_442 {X : Nat × (Nat → Int32)} {I : Nat → Nat → Int32} {v3 : Int32}  : zr X 187 442 [.ref 0, .ref 1, .ref 160, .int v3] [] (zk I) = some (some (.int 0), zk I) :=
  (zr_iconst t187_442 zci_0).trans <|
    zr_zret t187_443 rfl (Or.inl rfl)
theorem k187_444 {X : Nat × (Nat → Int32)} {I : Nat → Nat → Int32} {v3 : Int32} (q1 : zin (v3 + 1) X.1 = true) (q2 : zin (v3 + 2) X.1 = true) : zr X 187 444 [.ref 0, .ref 1, .ref 160, .int v3] [] (zk I) = zcb (zr X 100 0 [.ref 1, .int (X.2 (zx (v3 + 1))), .int (X.2 (zx (v3 + 2)))] [] (zk I)) (fun v m1 => zr X 187 458 [.ref 0, .ref 1, .ref 160, .int v3] (v.toList ++ []) m1) :=
  (zr_aload_n t187_444 rfl).trans <|
    (zr_aload_n t187_445 rfl).trans <|
    (zr_iload_n t187_446 rfl).trans <|
    (zr_iconst t187_447 zci_1).trans <|
    (zr_iadd t187_448).trans <|
    (zr_sld (j := zx (v3 + 1)) t187_449 rfl q1).trans <|
    (zr_aload_n t187_450 rfl).trans <|
    (zr_iload_n t187_451 rfl).trans <|
    (zr_iconst t187_452 zci_2).trans <|
    (zr_iadd t187_453).trans <|
    (zr_sld (j := zx (v3 + 2)) t187_454 rfl q2).trans <|
    zr_callv t187_455 rfl rfl rfl rfl
theorem k187_458 {X : Nat × (Nat → Int32)} {I : Nat → Nat → Int32} {v3 : Int32} {s0 : Int32} (q1 : zin (v3 + 1) X.1 = true) (q2 : zin (v3 + 2) X.1 = true) : zr X 187 458 [.ref 0, .ref 1, .ref 160, .int v3] [.int s0] (zk I) = zcb (zr X 161 0 [.ref 160, .int (X.2 (zx (v3 + 1))), .int (X.2 (zx (v3 + 2)))] [] (zk I)) (fun v m1 => zr X 187 472 [.ref 0, .ref 1, .ref 160, .int v3] (v.toList ++ [.int s0]) m1) :=
  (zr_aload_n t187_458 rfl).trans <|
    (zr_aload_n t187_459 rfl).trans <|
    (zr_iload_n t187_460 rfl).trans <|
    (zr_iconst t187_461 zci_1).trans <|
    (zr_iadd t187_462).trans <|
    (zr_sld (j := zx (v3 + 1)) t187_463 rfl q1).trans <|
    (zr_aload_n t187_464 rfl).trans <|
    (zr_iload_n t187_465 rfl).trans <|
    (zr_iconst t187_466 zci_2).trans <|
    (zr_iadd t187_467).trans <|
    (zr_sld (j := zx (v3 + 2)) t187_468 rfl q2).trans <|
    zr_callv t187_469 rfl rfl rfl rfl
theorem k187_472 {X : Nat × (Nat → Int32)} {I : Nat → Nat → Int32} {v3 : Int32} {s0 : Int32} {s1 : Int32}  : zr X 187 472 [.ref 0, .ref 1, .ref 160, .int v3] [.int s1, .int s0] (zk I) = if s0 = s1 then zr X 187 793 [.ref 0, .ref 1, .ref 160, .int v3] [] (zk I) else zr X 187 475 [.ref 0, .ref 1, .ref 160, .int v3] [] (zk I) :=
  zr_ic_eq (tgt := 793) t187_472 rfl
theorem k187_475 {X : Nat × (Nat → Int32)} {I : Nat → Nat → Int32} {v3 : Int32}  : zr X 187 475 [.ref 0, .ref 1, .ref 160, .int v3] [] (zk I) = some (some (.int 0), zk I) :=
  (zr_iconst t187_475 zci_0).trans <|
    zr_zret t187_476 rfl (Or.inl rfl)
theorem k187_477 {X : Nat × (Nat → Int32)} {I : Nat → Nat → Int32} {v3 : Int32} (q1 : zin (v3 + 1) X.1 = true) (q2 : zin (v3 + 2) X.1 = true) : zr X 187 477 [.ref 0, .ref 1, .ref 160, .int v3] [] (zk I) = zcb (zr X 101 0 [.ref 1, .int (X.2 (zx (v3 + 1))), .int (X.2 (zx (v3 + 2)))] [] (zk I)) (fun v m1 => zr X 187 491 [.ref 0, .ref 1, .ref 160, .int v3] (v.toList ++ []) m1) :=
  (zr_aload_n t187_477 rfl).trans <|
    (zr_aload_n t187_478 rfl).trans <|
    (zr_iload_n t187_479 rfl).trans <|
    (zr_iconst t187_480 zci_1).trans <|
    (zr_iadd t187_481).trans <|
    (zr_sld (j := zx (v3 + 1)) t187_482 rfl q1).trans <|
    (zr_aload_n t187_483 rfl).trans <|
    (zr_iload_n t187_484 rfl).trans <|
    (zr_iconst t187_485 zci_2).trans <|
    (zr_iadd t187_486).trans <|
    (zr_sld (j := zx (v3 + 2)) t187_487 rfl q2).trans <|
    zr_callv t187_488 rfl rfl rfl rfl
theorem k187_491 {X : Nat × (Nat → Int32)} {I : Nat → Nat → Int32} {v3 : Int32} {s0 : Int32} (q1 : zin (v3 + 1) X.1 = true) (q2 : zin (v3 + 2) X.1 = true) : zr X 187 491 [.ref 0, .ref 1, .ref 160, .int v3] [.int s0] (zk I) = zcb (zr X 163 0 [.ref 160, .int (X.2 (zx (v3 + 1))), .int (X.2 (zx (v3 + 2)))] [] (zk I)) (fun v m1 => zr X 187 505 [.ref 0, .ref 1, .ref 160, .int v3] (v.toList ++ [.int s0]) m1) :=
  (zr_aload_n t187_491 rfl).trans <|
    (zr_aload_n t187_492 rfl).trans <|
    (zr_iload_n t187_493 rfl).trans <|
    (zr_iconst t187_494 zci_1).trans <|
    (zr_iadd t187_495).trans <|
    (zr_sld (j := zx (v3 + 1)) t187_496 rfl q1).trans <|
    (zr_aload_n t187_497 rfl).trans <|
    (zr_iload_n t187_498 rfl).trans <|
    (zr_iconst t187_499 zci_2).trans <|
    (zr_iadd t187_500).trans <|
    (zr_sld (j := zx (v3 + 2)) t187_501 rfl q2).trans <|
    zr_callv t187_502 rfl rfl rfl rfl
theorem k187_505 {X : Nat × (Nat → Int32)} {I : Nat → Nat → Int32} {v3 : Int32} {s0 : Int32} {s1 : Int32}  : zr X 187 505 [.ref 0, .ref 1, .ref 160, .int v3] [.int s1, .int s0] (zk I) = if s0 = s1 then zr X 187 793 [.ref 0, .ref 1, .ref 160, .int v3] [] (zk I) else zr X 187 508 [.ref 0, .ref 1, .ref 160, .int v3] [] (zk I) :=
  zr_ic_eq (tgt := 793) t187_505 rfl
theorem k187_508 {X : Nat × (Nat → Int32)} {I : Nat → Nat → Int32} {v3 : Int32}  : zr X 187 508 [.ref 0, .ref 1, .ref 160, .int v3] [] (zk I) = some (some (.int 0), zk I) :=
  (zr_iconst t187_508 zci_0).trans <|
    zr_zret t187_509 rfl (Or.inl rfl)
theorem k187_510 {X : Nat × (Nat → Int32)} {I : Nat → Nat → Int32} {v3 : Int32} (q1 : zin (v3 + 1) X.1 = true) : zr X 187 510 [.ref 0, .ref 1, .ref 160, .int v3] [] (zk I) = zcb (zr X 102 0 [.ref 1, .int (X.2 (zx (v3 + 1)))] [] (zk I)) (fun v m1 => zr X 187 519 [.ref 0, .ref 1, .ref 160, .int v3] (v.toList ++ []) m1) :=
  (zr_aload_n t187_510 rfl).trans <|
    (zr_aload_n t187_511 rfl).trans <|
    (zr_iload_n t187_512 rfl).trans <|
    (zr_iconst t187_513 zci_1).trans <|
    (zr_iadd t187_514).trans <|
    (zr_sld (j := zx (v3 + 1)) t187_515 rfl q1).trans <|
    zr_callv t187_516 rfl rfl rfl rfl
theorem k187_519 {X : Nat × (Nat → Int32)} {I : Nat → Nat → Int32} {v3 : Int32} {s0 : Int32} (q1 : zin (v3 + 1) X.1 = true) : zr X 187 519 [.ref 0, .ref 1, .ref 160, .int v3] [.int s0] (zk I) = zcb (zr X 165 0 [.ref 160, .int (X.2 (zx (v3 + 1)))] [] (zk I)) (fun v m1 => zr X 187 528 [.ref 0, .ref 1, .ref 160, .int v3] (v.toList ++ [.int s0]) m1) :=
  (zr_aload_n t187_519 rfl).trans <|
    (zr_aload_n t187_520 rfl).trans <|
    (zr_iload_n t187_521 rfl).trans <|
    (zr_iconst t187_522 zci_1).trans <|
    (zr_iadd t187_523).trans <|
    (zr_sld (j := zx (v3 + 1)) t187_524 rfl q1).trans <|
    zr_callv t187_525 rfl rfl rfl rfl
theorem k187_528 {X : Nat × (Nat → Int32)} {I : Nat → Nat → Int32} {v3 : Int32} {s0 : Int32} {s1 : Int32}  : zr X 187 528 [.ref 0, .ref 1, .ref 160, .int v3] [.int s1, .int s0] (zk I) = if s0 = s1 then zr X 187 793 [.ref 0, .ref 1, .ref 160, .int v3] [] (zk I) else zr X 187 531 [.ref 0, .ref 1, .ref 160, .int v3] [] (zk I) :=
  zr_ic_eq (tgt := 793) t187_528 rfl
theorem k187_531 {X : Nat × (Nat → Int32)} {I : Nat → Nat → Int32} {v3 : Int32}  : zr X 187 531 [.ref 0, .ref 1, .ref 160, .int v3] [] (zk I) = some (some (.int 0), zk I) :=
  (zr_iconst t187_531 zci_0).trans <|
    zr_zret t187_532 rfl (Or.inl rfl)
theorem k187_533 {X : Nat × (Nat → Int32)} {I : Nat → Nat → Int32} {v3 : Int32} (q1 : zin (v3 + 1) X.1 = true) (q2 : zin (v3 + 2) X.1 = true) : zr X 187 533 [.ref 0, .ref 1, .ref 160, .int v3] [] (zk I) = zcb (zr X 103 0 [.ref 1, .int (X.2 (zx (v3 + 1))), .int (X.2 (zx (v3 + 2)))] [] (zk I)) (fun v m1 => zr X 187 547 [.ref 0, .ref 1, .ref 160, .int v3] (v.toList ++ []) m1) :=
  (zr_aload_n t187_533 rfl).trans <|
    (zr_aload_n t187_534 rfl).trans <|
    (zr_iload_n t187_535 rfl).trans <|
    (zr_iconst t187_536 zci_1).trans <|
    (zr_iadd t187_537).trans <|
    (zr_sld (j := zx (v3 + 1)) t187_538 rfl q1).trans <|
    (zr_aload_n t187_539 rfl).trans <|
    (zr_iload_n t187_540 rfl).trans <|
    (zr_iconst t187_541 zci_2).trans <|
    (zr_iadd t187_542).trans <|
    (zr_sld (j := zx (v3 + 2)) t187_543 rfl q2).trans <|
    zr_callv t187_544 rfl rfl rfl rfl
theorem k187_547 {X : Nat × (Nat → Int32)} {I : Nat → Nat → Int32} {v3 : Int32} {s0 : Int32} (q1 : zin (v3 + 1) X.1 = true) (q2 : zin (v3 + 2) X.1 = true) : zr X 187 547 [.ref 0, .ref 1, .ref 160, .int v3] [.int s0] (zk I) = zcb (zr X 167 0 [.ref 160, .int (X.2 (zx (v3 + 1))), .int (X.2 (zx (v3 + 2))), .null] [] (zk I)) (fun v m1 => zr X 187 561 [.ref 0, .ref 1, .ref 160, .int v3] (v.toList ++ [.int s0]) m1) :=
  (zr_aload_n t187_547 rfl).trans <|
    (zr_aload_n t187_548 rfl).trans <|
    (zr_iload_n t187_549 rfl).trans <|
    (zr_iconst t187_550 zci_1).trans <|
    (zr_iadd t187_551).trans <|
    (zr_sld (j := zx (v3 + 1)) t187_552 rfl q1).trans <|
    (zr_aload_n t187_553 rfl).trans <|
    (zr_iload_n t187_554 rfl).trans <|
    (zr_iconst t187_555 zci_2).trans <|
    (zr_iadd t187_556).trans <|
    (zr_sld (j := zx (v3 + 2)) t187_557 rfl q2).trans <|
    zr_callv t187_558 rfl rfl rfl rfl
theorem k187_561 {X : Nat × (Nat → Int32)} {I : Nat → Nat → Int32} {v3 : Int32} {s0 : Int32} {s1 : Int32}  : zr X 187 561 [.ref 0, .ref 1, .ref 160, .int v3] [.int s1, .int s0] (zk I) = if s0 = s1 then zr X 187 793 [.ref 0, .ref 1, .ref 160, .int v3] [] (zk I) else zr X 187 564 [.ref 0, .ref 1, .ref 160, .int v3] [] (zk I) :=
  zr_ic_eq (tgt := 793) t187_561 rfl
theorem k187_564 {X : Nat × (Nat → Int32)} {I : Nat → Nat → Int32} {v3 : Int32}  : zr X 187 564 [.ref 0, .ref 1, .ref 160, .int v3] [] (zk I) = some (some (.int 0), zk I) :=
  (zr_iconst t187_564 zci_0).trans <|
    zr_zret t187_565 rfl (Or.inl rfl)
theorem k187_566 {X : Nat × (Nat → Int32)} {I : Nat → Nat → Int32} {v3 : Int32} (q1 : zin (v3 + 1) X.1 = true) (q2 : zin (v3 + 2) X.1 = true) : zr X 187 566 [.ref 0, .ref 1, .ref 160, .int v3] [] (zk I) = zcb (zr X 104 0 [.ref 1, .int (X.2 (zx (v3 + 1))), .int (X.2 (zx (v3 + 2)))] [] (zk I)) (fun v m1 => zr X 187 580 [.ref 0, .ref 1, .ref 160, .int v3] (v.toList ++ []) m1) :=
  (zr_aload_n t187_566 rfl).trans <|
    (zr_aload_n t187_567 rfl).trans <|
    (zr_iload_n t187_568 rfl).trans <|
    (zr_iconst t187_569 zci_1).trans <|
    (zr_iadd t187_570).trans <|
    (zr_sld (j := zx (v3 + 1)) t187_571 rfl q1).trans <|
    (zr_aload_n t187_572 rfl).trans <|
    (zr_iload_n t187_573 rfl).trans <|
    (zr_iconst t187_574 zci_2).trans <|
    (zr_iadd t187_575).trans <|
    (zr_sld (j := zx (v3 + 2)) t187_576 rfl q2).trans <|
    zr_callv t187_577 rfl rfl rfl rfl
theorem k187_580 {X : Nat × (Nat → Int32)} {I : Nat → Nat → Int32} {v3 : Int32} {s0 : Int32} (q1 : zin (v3 + 1) X.1 = true) (q2 : zin (v3 + 2) X.1 = true) : zr X 187 580 [.ref 0, .ref 1, .ref 160, .int v3] [.int s0] (zk I) = zcb (zr X 169 0 [.ref 160, .int (X.2 (zx (v3 + 1))), .int (X.2 (zx (v3 + 2)))] [] (zk I)) (fun v m1 => zr X 187 594 [.ref 0, .ref 1, .ref 160, .int v3] (v.toList ++ [.int s0]) m1) :=
  (zr_aload_n t187_580 rfl).trans <|
    (zr_aload_n t187_581 rfl).trans <|
    (zr_iload_n t187_582 rfl).trans <|
    (zr_iconst t187_583 zci_1).trans <|
    (zr_iadd t187_584).trans <|
    (zr_sld (j := zx (v3 + 1)) t187_585 rfl q1).trans <|
    (zr_aload_n t187_586 rfl).trans <|
    (zr_iload_n t187_587 rfl).trans <|
    (zr_iconst t187_588 zci_2).trans <|
    (zr_iadd t187_589).trans <|
    (zr_sld (j := zx (v3 + 2)) t187_590 rfl q2).trans <|
    zr_callv t187_591 rfl rfl rfl rfl
theorem k187_594 {X : Nat × (Nat → Int32)} {I : Nat → Nat → Int32} {v3 : Int32} {s0 : Int32} {s1 : Int32}  : zr X 187 594 [.ref 0, .ref 1, .ref 160, .int v3] [.int s1, .int s0] (zk I) = if s0 = s1 then zr X 187 793 [.ref 0, .ref 1, .ref 160, .int v3] [] (zk I) else zr X 187 597 [.ref 0, .ref 1, .ref 160, .int v3] [] (zk I) :=
  zr_ic_eq (tgt := 793) t187_594 rfl
theorem k187_597 {X : Nat × (Nat → Int32)} {I : Nat → Nat → Int32} {v3 : Int32}  : zr X 187 597 [.ref 0, .ref 1, .ref 160, .int v3] [] (zk I) = some (some (.int 0), zk I) :=
  (zr_iconst t187_597 zci_0).trans <|
    zr_zret t187_598 rfl (Or.inl rfl)
theorem k187_599 {X : Nat × (Nat → Int32)} {I : Nat → Nat → Int32} {v3 : Int32} (q1 : zin (v3 + 1) X.1 = true) (q2 : zin (v3 + 2) X.1 = true) : zr X 187 599 [.ref 0, .ref 1, .ref 160, .int v3] [] (zk I) = zcb (zr X 105 0 [.ref 1, .int (X.2 (zx (v3 + 1))), .int (X.2 (zx (v3 + 2)))] [] (zk I)) (fun v m1 => zr X 187 613 [.ref 0, .ref 1, .ref 160, .int v3] (v.toList ++ []) m1) :=
  (zr_aload_n t187_599 rfl).trans <|
    (zr_aload_n t187_600 rfl).trans <|
    (zr_iload_n t187_601 rfl).trans <|
    (zr_iconst t187_602 zci_1).trans <|
    (zr_iadd t187_603).trans <|
    (zr_sld (j := zx (v3 + 1)) t187_604 rfl q1).trans <|
    (zr_aload_n t187_605 rfl).trans <|
    (zr_iload_n t187_606 rfl).trans <|
    (zr_iconst t187_607 zci_2).trans <|
    (zr_iadd t187_608).trans <|
    (zr_sld (j := zx (v3 + 2)) t187_609 rfl q2).trans <|
    zr_callv t187_610 rfl rfl rfl rfl
theorem k187_613 {X : Nat × (Nat → Int32)} {I : Nat → Nat → Int32} {v3 : Int32} {s0 : Int32} (q1 : zin (v3 + 1) X.1 = true) (q2 : zin (v3 + 2) X.1 = true) : zr X 187 613 [.ref 0, .ref 1, .ref 160, .int v3] [.int s0] (zk I) = zcb (zr X 170 0 [.ref 160, .int (X.2 (zx (v3 + 1))), .int (X.2 (zx (v3 + 2)))] [] (zk I)) (fun v m1 => zr X 187 627 [.ref 0, .ref 1, .ref 160, .int v3] (v.toList ++ [.int s0]) m1) :=
  (zr_aload_n t187_613 rfl).trans <|
    (zr_aload_n t187_614 rfl).trans <|
    (zr_iload_n t187_615 rfl).trans <|
    (zr_iconst t187_616 zci_1).trans <|
    (zr_iadd t187_617).trans <|
    (zr_sld (j := zx (v3 + 1)) t187_618 rfl q1).trans <|
    (zr_aload_n t187_619 rfl).trans <|
    (zr_iload_n t187_620 rfl).trans <|
    (zr_iconst t187_621 zci_2).trans <|
    (zr_iadd t187_622).trans <|
    (zr_sld (j := zx (v3 + 2)) t187_623 rfl q2).trans <|
    zr_callv t187_624 rfl rfl rfl rfl
theorem k187_627 {X : Nat × (Nat → Int32)} {I : Nat → Nat → Int32} {v3 : Int32} {s0 : Int32} {s1 : Int32}  : zr X 187 627 [.ref 0, .ref 1, .ref 160, .int v3] [.int s1, .int s0] (zk I) = if s0 = s1 then zr X 187 793 [.ref 0, .ref 1, .ref 160, .int v3] [] (zk I) else zr X 187 630 [.ref 0, .ref 1, .ref 160, .int v3] [] (zk I) :=
  zr_ic_eq (tgt := 793) t187_627 rfl
theorem k187_630 {X : Nat × (Nat → Int32)} {I : Nat → Nat → Int32} {v3 : Int32}  : zr X 187 630 [.ref 0, .ref 1, .ref 160, .int v3] [] (zk I) = some (some (.int 0), zk I) :=
  (zr_iconst t187_630 zci_0).trans <|
    zr_zret t187_631 rfl (Or.inl rfl)
theorem k187_632 {X : Nat × (Nat → Int32)} {I : Nat → Nat → Int32} {v3 : Int32} (q1 : zin (v3 + 1) X.1 = true) : zr X 187 632 [.ref 0, .ref 1, .ref 160, .int v3] [] (zk I) = zcb (zr X 106 0 [.ref 1, .int (X.2 (zx (v3 + 1))), .null] [] (zk I)) (fun v m1 => zr X 187 641 [.ref 0, .ref 1, .ref 160, .int v3] (v.toList ++ []) m1) :=
  (zr_aload_n t187_632 rfl).trans <|
    (zr_aload_n t187_633 rfl).trans <|
    (zr_iload_n t187_634 rfl).trans <|
    (zr_iconst t187_635 zci_1).trans <|
    (zr_iadd t187_636).trans <|
    (zr_sld (j := zx (v3 + 1)) t187_637 rfl q1).trans <|
    zr_callv t187_638 rfl rfl rfl rfl
theorem k187_641 {X : Nat × (Nat → Int32)} {I : Nat → Nat → Int32} {v3 : Int32} {s0 : Int32} (q1 : zin (v3 + 1) X.1 = true) : zr X 187 641 [.ref 0, .ref 1, .ref 160, .int v3] [.int s0] (zk I) = zcb (zr X 171 0 [.ref 160, .int (X.2 (zx (v3 + 1))), .null, .null] [] (zk I)) (fun v m1 => zr X 187 650 [.ref 0, .ref 1, .ref 160, .int v3] (v.toList ++ [.int s0]) m1) :=
  (zr_aload_n t187_641 rfl).trans <|
    (zr_aload_n t187_642 rfl).trans <|
    (zr_iload_n t187_643 rfl).trans <|
    (zr_iconst t187_644 zci_1).trans <|
    (zr_iadd t187_645).trans <|
    (zr_sld (j := zx (v3 + 1)) t187_646 rfl q1).trans <|
    zr_callv t187_647 rfl rfl rfl rfl
theorem k187_650 {X : Nat × (Nat → Int32)} {I : Nat → Nat → Int32} {v3 : Int32} {s0 : Int32} {s1 : Int32}  : zr X 187 650 [.ref 0, .ref 1, .ref 160, .int v3] [.int s1, .int s0] (zk I) = if s0 = s1 then zr X 187 793 [.ref 0, .ref 1, .ref 160, .int v3] [] (zk I) else zr X 187 653 [.ref 0, .ref 1, .ref 160, .int v3] [] (zk I) :=
  zr_ic_eq (tgt := 793) t187_650 rfl
theorem k187_653 {X : Nat × (Nat → Int32)} {I : Nat → Nat → Int32} {v3 : Int32}  : zr X 187 653 [.ref 0, .ref 1, .ref 160, .int v3] [] (zk I) = some (some (.int 0), zk I) :=
  (zr_iconst t187_653 zci_0).trans <|
    zr_zret t187_654 rfl (Or.inl rfl)
theorem k187_655 {X : Nat × (Nat → Int32)} {I : Nat → Nat → Int32} {v3 : Int32} (q1 : zin (v3 + 1) X.1 = true) (q2 : zin (v3 + 2) X.1 = true) : zr X 187 655 [.ref 0, .ref 1, .ref 160, .int v3] [] (zk I) = zcb (zr X 107 0 [.ref 1, .long ((((X.2 (zx (v3 + 1))).toInt64) <<< ((32 : Int32).toInt64 &&& 63)) ||| (((X.2 (zx (v3 + 2))).toInt64) &&& 4294967295)), .null, .null] [] (zk I)) (fun v m1 => zr X 187 679 [.ref 0, .ref 1, .ref 160, .int v3] (v.toList ++ []) m1) :=
  (zr_aload_n t187_655 rfl).trans <|
    (zr_aload_n t187_656 rfl).trans <|
    (zr_iload_n t187_657 rfl).trans <|
    (zr_iconst t187_658 zci_1).trans <|
    (zr_iadd t187_659).trans <|
    (zr_sld (j := zx (v3 + 1)) t187_660 rfl q1).trans <|
    (zr_i2l t187_661).trans <|
    (zr_bipush t187_662 zcb_32).trans <|
    (zr_lshl t187_664).trans <|
    (zr_aload_n t187_665 rfl).trans <|
    (zr_iload_n t187_666 rfl).trans <|
    (zr_iconst t187_667 zci_2).trans <|
    (zr_iadd t187_668).trans <|
    (zr_sld (j := zx (v3 + 2)) t187_669 rfl q2).trans <|
    (zr_i2l t187_670).trans <|
    (zr_ldc2 t187_671 (x := 4294967295) (by decide)).trans <|
    (zr_land t187_674).trans <|
    (zr_lor t187_675).trans <|
    zr_callv t187_676 rfl rfl rfl rfl
theorem k187_679 {X : Nat × (Nat → Int32)} {I : Nat → Nat → Int32} {v3 : Int32} {s0 : Int32} (q1 : zin (v3 + 1) X.1 = true) (q2 : zin (v3 + 2) X.1 = true) : zr X 187 679 [.ref 0, .ref 1, .ref 160, .int v3] [.int s0] (zk I) = zcb (zr X 172 0 [.ref 160, .long ((((X.2 (zx (v3 + 1))).toInt64) <<< ((32 : Int32).toInt64 &&& 63)) ||| (((X.2 (zx (v3 + 2))).toInt64) &&& 4294967295)), .null, .null, .null, .null, .null, .null] [] (zk I)) (fun v m1 => zr X 187 703 [.ref 0, .ref 1, .ref 160, .int v3] (v.toList ++ [.int s0]) m1) :=
  (zr_aload_n t187_679 rfl).trans <|
    (zr_aload_n t187_680 rfl).trans <|
    (zr_iload_n t187_681 rfl).trans <|
    (zr_iconst t187_682 zci_1).trans <|
    (zr_iadd t187_683).trans <|
    (zr_sld (j := zx (v3 + 1)) t187_684 rfl q1).trans <|
    (zr_i2l t187_685).trans <|
    (zr_bipush t187_686 zcb_32).trans <|
    (zr_lshl t187_688).trans <|
    (zr_aload_n t187_689 rfl).trans <|
    (zr_iload_n t187_690 rfl).trans <|
    (zr_iconst t187_691 zci_2).trans <|
    (zr_iadd t187_692).trans <|
    (zr_sld (j := zx (v3 + 2)) t187_693 rfl q2).trans <|
    (zr_i2l t187_694).trans <|
    (zr_ldc2 t187_695 (x := 4294967295) (by decide)).trans <|
    (zr_land t187_698).trans <|
    (zr_lor t187_699).trans <|
    zr_callv t187_700 rfl rfl rfl rfl
theorem k187_703 {X : Nat × (Nat → Int32)} {I : Nat → Nat → Int32} {v3 : Int32} {s0 : Int32} {s1 : Int32}  : zr X 187 703 [.ref 0, .ref 1, .ref 160, .int v3] [.int s1, .int s0] (zk I) = if s0 = s1 then zr X 187 793 [.ref 0, .ref 1, .ref 160, .int v3] [] (zk I) else zr X 187 706 [.ref 0, .ref 1, .ref 160, .int v3] [] (zk I) :=
  zr_ic_eq (tgt := 793) t187_703 rfl
theorem k187_706 {X : Nat × (Nat → Int32)} {I : Nat → Nat → Int32} {v3 : Int32}  : zr X 187 706 [.ref 0, .ref 1, .ref 160, .int v3] [] (zk I) = some (some (.int 0), zk I) :=
  (zr_iconst t187_706 zci_0).trans <|
    zr_zret t187_707 rfl (Or.inl rfl)
theorem k187_708 {X : Nat × (Nat → Int32)} {I : Nat → Nat → Int32} {v3 : Int32}  : zr X 187 708 [.ref 0, .ref 1, .ref 160, .int v3] [] (zk I) = zcb (zr X 108 0 [.ref 1, .null] [] (zk I)) (fun v m1 => zr X 187 712 [.ref 0, .ref 1, .ref 160, .int v3] (v.toList ++ []) m1) :=
  (zr_aload_n t187_708 rfl).trans <|
    zr_callv t187_709 rfl rfl rfl rfl
theorem k187_712 {X : Nat × (Nat → Int32)} {I : Nat → Nat → Int32} {v3 : Int32} {s0 : Int32}  : zr X 187 712 [.ref 0, .ref 1, .ref 160, .int v3] [.int s0] (zk I) = zcb (zr X 173 0 [.ref 160, .null] [] (zk I)) (fun v m1 => zr X 187 716 [.ref 0, .ref 1, .ref 160, .int v3] (v.toList ++ [.int s0]) m1) :=
  (zr_aload_n t187_712 rfl).trans <|
    zr_callv t187_713 rfl rfl rfl rfl
theorem k187_716 {X : Nat × (Nat → Int32)} {I : Nat → Nat → Int32} {v3 : Int32} {s0 : Int32} {s1 : Int32}  : zr X 187 716 [.ref 0, .ref 1, .ref 160, .int v3] [.int s1, .int s0] (zk I) = if s0 = s1 then zr X 187 793 [.ref 0, .ref 1, .ref 160, .int v3] [] (zk I) else zr X 187 719 [.ref 0, .ref 1, .ref 160, .int v3] [] (zk I) :=
  zr_ic_eq (tgt := 793) t187_716 rfl
theorem k187_719 {X : Nat × (Nat → Int32)} {I : Nat → Nat → Int32} {v3 : Int32}  : zr X 187 719 [.ref 0, .ref 1, .ref 160, .int v3] [] (zk I) = some (some (.int 0), zk I) :=
  (zr_iconst t187_719 zci_0).trans <|
    zr_zret t187_720 rfl (Or.inl rfl)
theorem k187_721 {X : Nat × (Nat → Int32)} {I : Nat → Nat → Int32} {v3 : Int32}  : zr X 187 721 [.ref 0, .ref 1, .ref 160, .int v3] [] (zk I) = zcb (zr X 109 0 [.ref 1] [] (zk I)) (fun v m1 => zr X 187 725 [.ref 0, .ref 1, .ref 160, .int v3] (v.toList ++ []) m1) :=
  (zr_aload_n t187_721 rfl).trans <|
    zr_callv t187_722 rfl rfl rfl rfl
theorem k187_725 {X : Nat × (Nat → Int32)} {I : Nat → Nat → Int32} {v3 : Int32} {s0 : Int32}  : zr X 187 725 [.ref 0, .ref 1, .ref 160, .int v3] [.int s0] (zk I) = zcb (zr X 181 0 [.ref 160] [] (zk I)) (fun v m1 => zr X 187 729 [.ref 0, .ref 1, .ref 160, .int v3] (v.toList ++ [.int s0]) m1) :=
  (zr_aload_n t187_725 rfl).trans <|
    zr_callv t187_726 rfl rfl rfl rfl
theorem k187_729 {X : Nat × (Nat → Int32)} {I : Nat → Nat → Int32} {v3 : Int32} {s0 : Int32} {s1 : Int32}  : zr X 187 729 [.ref 0, .ref 1, .ref 160, .int v3] [.int s1, .int s0] (zk I) = if s0 = s1 then zr X 187 793 [.ref 0, .ref 1, .ref 160, .int v3] [] (zk I) else zr X 187 732 [.ref 0, .ref 1, .ref 160, .int v3] [] (zk I) :=
  zr_ic_eq (tgt := 793) t187_729 rfl
theorem k187_732 {X : Nat × (Nat → Int32)} {I : Nat → Nat → Int32} {v3 : Int32}  : zr X 187 732 [.ref 0, .ref 1, .ref 160, .int v3] [] (zk I) = some (some (.int 0), zk I) :=
  (zr_iconst t187_732 zci_0).trans <|
    zr_zret t187_733 rfl (Or.inl rfl)
theorem k187_734 {X : Nat × (Nat → Int32)} {I : Nat → Nat → Int32} {v3 : Int32}  : zr X 187 734 [.ref 0, .ref 1, .ref 160, .int v3] [] (zk I) = zcb (zr X 110 0 [.ref 1] [] (zk I)) (fun v m1 => zr X 187 738 [.ref 0, .ref 1, .ref 160, .int v3] (v.toList ++ []) m1) :=
  (zr_aload_n t187_734 rfl).trans <|
    zr_callv t187_735 rfl rfl rfl rfl
theorem k187_738 {X : Nat × (Nat → Int32)} {I : Nat → Nat → Int32} {v3 : Int32} {s0 : Int32}  : zr X 187 738 [.ref 0, .ref 1, .ref 160, .int v3] [.int s0] (zk I) = zcb (zr X 182 0 [.ref 160, .null] [] (zk I)) (fun v m1 => zr X 187 742 [.ref 0, .ref 1, .ref 160, .int v3] (v.toList ++ [.int s0]) m1) :=
  (zr_aload_n t187_738 rfl).trans <|
    zr_callv t187_739 rfl rfl rfl rfl
theorem k187_742 {X : Nat × (Nat → Int32)} {I : Nat → Nat → Int32} {v3 : Int32} {s0 : Int32} {s1 : Int32}  : zr X 187 742 [.ref 0, .ref 1, .ref 160, .int v3] [.int s1, .int s0] (zk I) = if s0 = s1 then zr X 187 793 [.ref 0, .ref 1, .ref 160, .int v3] [] (zk I) else zr X 187 745 [.ref 0, .ref 1, .ref 160, .int v3] [] (zk I) :=
  zr_ic_eq (tgt := 793) t187_742 rfl
theorem k187_745 {X : Nat × (Nat → Int32)} {I : Nat → Nat → Int32} {v3 : Int32}  : zr X 187 745 [.ref 0, .ref 1, .ref 160, .int v3] [] (zk I) = some (some (.int 0), zk I) :=
  (zr_iconst t187_745 zci_0).trans <|
    zr_zret t187_746 rfl (Or.inl rfl)
theorem k187_747 {X : Nat × (Nat → Int32)} {I : Nat → Nat → Int32} {v3 : Int32} (q1 : zin (v3 + 1) X.1 = true) : zr X 187 747 [.ref 0, .ref 1, .ref 160, .int v3] [] (zk I) = zcb (zr X 111 0 [.ref 1, .int (X.2 (zx (v3 + 1)))] [] (zk I)) (fun v m1 => zr X 187 756 [.ref 0, .ref 1, .ref 160, .int v3] (v.toList ++ []) m1) :=
  (zr_aload_n t187_747 rfl).trans <|
    (zr_aload_n t187_748 rfl).trans <|
    (zr_iload_n t187_749 rfl).trans <|
    (zr_iconst t187_750 zci_1).trans <|
    (zr_iadd t187_751).trans <|
    (zr_sld (j := zx (v3 + 1)) t187_752 rfl q1).trans <|
    zr_callv t187_753 rfl rfl rfl rfl
theorem k187_756 {X : Nat × (Nat → Int32)} {I : Nat → Nat → Int32} {v3 : Int32} {s0 : Int32} (q1 : zin (v3 + 1) X.1 = true) : zr X 187 756 [.ref 0, .ref 1, .ref 160, .int v3] [.int s0] (zk I) = zcb (zr X 183 0 [.ref 160, .int (X.2 (zx (v3 + 1))), .null] [] (zk I)) (fun v m1 => zr X 187 765 [.ref 0, .ref 1, .ref 160, .int v3] (v.toList ++ [.int s0]) m1) :=
  (zr_aload_n t187_756 rfl).trans <|
    (zr_aload_n t187_757 rfl).trans <|
    (zr_iload_n t187_758 rfl).trans <|
    (zr_iconst t187_759 zci_1).trans <|
    (zr_iadd t187_760).trans <|
    (zr_sld (j := zx (v3 + 1)) t187_761 rfl q1).trans <|
    zr_callv t187_762 rfl rfl rfl rfl
theorem k187_765 {X : Nat × (Nat → Int32)} {I : Nat → Nat → Int32} {v3 : Int32} {s0 : Int32} {s1 : Int32}  : zr X 187 765 [.ref 0, .ref 1, .ref 160, .int v3] [.int s1, .int s0] (zk I) = if s0 = s1 then zr X 187 793 [.ref 0, .ref 1, .ref 160, .int v3] [] (zk I) else zr X 187 768 [.ref 0, .ref 1, .ref 160, .int v3] [] (zk I) :=
  zr_ic_eq (tgt := 793) t187_765 rfl
theorem k187_768 {X : Nat × (Nat → Int32)} {I : Nat → Nat → Int32} {v3 : Int32}  : zr X 187 768 [.ref 0, .ref 1, .ref 160, .int v3] [] (zk I) = some (some (.int 0), zk I) :=
  (zr_iconst t187_768 zci_0).trans <|
    zr_zret t187_769 rfl (Or.inl rfl)
theorem k187_770 {X : Nat × (Nat → Int32)} {I : Nat → Nat → Int32} {v3 : Int32} (q1 : zin (v3 + 1) X.1 = true) : zr X 187 770 [.ref 0, .ref 1, .ref 160, .int v3] [] (zk I) = zcb (zr X 112 0 [.ref 1, .int (X.2 (zx (v3 + 1)))] [] (zk I)) (fun v m1 => zr X 187 779 [.ref 0, .ref 1, .ref 160, .int v3] (v.toList ++ []) m1) :=
  (zr_aload_n t187_770 rfl).trans <|
    (zr_aload_n t187_771 rfl).trans <|
    (zr_iload_n t187_772 rfl).trans <|
    (zr_iconst t187_773 zci_1).trans <|
    (zr_iadd t187_774).trans <|
    (zr_sld (j := zx (v3 + 1)) t187_775 rfl q1).trans <|
    zr_callv t187_776 rfl rfl rfl rfl
theorem k187_779 {X : Nat × (Nat → Int32)} {I : Nat → Nat → Int32} {v3 : Int32} {s0 : Int32} (q1 : zin (v3 + 1) X.1 = true) : zr X 187 779 [.ref 0, .ref 1, .ref 160, .int v3] [.int s0] (zk I) = zcb (zr X 184 0 [.ref 160, .int (X.2 (zx (v3 + 1))), .null] [] (zk I)) (fun v m1 => zr X 187 788 [.ref 0, .ref 1, .ref 160, .int v3] (v.toList ++ [.int s0]) m1) :=
  (zr_aload_n t187_779 rfl).trans <|
    (zr_aload_n t187_780 rfl).trans <|
    (zr_iload_n t187_781 rfl).trans <|
    (zr_iconst t187_782 zci_1).trans <|
    (zr_iadd t187_783).trans <|
    (zr_sld (j := zx (v3 + 1)) t187_784 rfl q1).trans <|
    zr_callv t187_785 rfl rfl rfl rfl
theorem k187_788 {X : Nat × (Nat → Int32)} {I : Nat → Nat → Int32} {v3 : Int32} {s0 : Int32} {s1 : Int32}  : zr X 187 788 [.ref 0, .ref 1, .ref 160, .int v3] [.int s1, .int s0] (zk I) = if s0 = s1 then zr X 187 793 [.ref 0, .ref 1, .ref 160, .int v3] [] (zk I) else zr X 187 791 [.ref 0, .ref 1, .ref 160, .int v3] [] (zk I) :=
  zr_ic_eq (tgt := 793) t187_788 rfl
theorem k187_791 {X : Nat × (Nat → Int32)} {I : Nat → Nat → Int32} {v3 : Int32}  : zr X 187 791 [.ref 0, .ref 1, .ref 160, .int v3] [] (zk I) = some (some (.int 0), zk I) :=
  (zr_iconst t187_791 zci_0).trans <|
    zr_zret t187_792 rfl (Or.inl rfl)
theorem k187_793 {X : Nat × (Nat → Int32)} {I : Nat → Nat → Int32} {v3 : Int32}  : zr X 187 793 [.ref 0, .ref 1, .ref 160, .int v3] [] (zk I) = zr X 187 18 [.ref 0, .ref 1, .ref 160, .int (v3 + 4)] [] (zk I) :=
  (zr_iinc t187_793 rfl rfl (congrArg (fun z => v3 + z) zci_4) rfl).trans <|
    zr_goto (tgt := 18) t187_796 rfl
theorem k187_799 {X : Nat × (Nat → Int32)} {I : Nat → Nat → Int32} {v3 : Int32}  : zr X 187 799 [.ref 0, .ref 1, .ref 160, .int v3] [] (zk I) = some (some (.int 1), zk I) :=
  (zr_iconst t187_799 zci_1).trans <|
    zr_zret t187_800 rfl (Or.inr rfl)
