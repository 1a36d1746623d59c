theorem d_L_law_189 : decode code 189 = .ok (.i2l, 1) := by decide +kernel
theorem d_L_law_190 : decode code 190 = .ok (.bipush 32, 2) := by decide +kernel
theorem d_L_law_192 : decode code 192 = .ok (.lshl, 1) := by decide +kernel
theorem d_L_law_193 : decode code 193 = .ok (.aload_n 0, 1) := by decide +kernel
theorem d_L_law_194 : decode code 194 = .ok (.iload_n 3, 1) := by decide +kernel
theorem d_L_law_195 : decode code 195 = .ok (.iconst 3, 1) := by decide +kernel
theorem d_L_law_196 : decode code 196 = .ok (.iadd, 1) := by decide +kernel
theorem d_L_law_197 : decode code 197 = .ok (.iaload, 1) := by decide +kernel
theorem d_L_law_198 : decode code 198 = .ok (.i2l, 1) := by decide +kernel
theorem d_L_law_199 : decode code 199 = .ok (.ldc2_w 26, 3) := by decide +kernel
theorem d_L_law_202 : decode code 202 = .ok (.land, 1) := by decide +kernel
theorem d_L_law_203 : decode code 203 = .ok (.lor, 1) := by decide +kernel
theorem d_L_law_204 : decode code 204 = .ok (.invokevirtual 32, 3) := by decide +kernel
theorem d_L_law_207 : decode code 207 = .ok (.if_icmp .eq 425, 3) := by decide +kernel
theorem d_L_law_210 : decode code 210 = .ok (.iconst 0, 1) := by decide +kernel
theorem d_L_law_211 : decode code 211 = .ok (.ireturn, 1) := by decide +kernel
theorem d_L_law_212 : decode code 212 = .ok (.aload_n 1, 1) := by decide +kernel
theorem d_L_law_213 : decode code 213 = .ok (.aload_n 0, 1) := by decide +kernel
theorem d_L_law_214 : decode code 214 = .ok (.iload_n 3, 1) := by decide +kernel
theorem d_L_law_215 : decode code 215 = .ok (.iconst 1, 1) := by decide +kernel
theorem d_L_law_216 : decode code 216 = .ok (.iadd, 1) := by decide +kernel
theorem d_L_law_217 : decode code 217 = .ok (.iaload, 1) := by decide +kernel
theorem d_L_law_218 : decode code 218 = .ok (.aload_n 0, 1) := by decide +kernel
theorem d_L_law_219 : decode code 219 = .ok (.iload_n 3, 1) := by decide +kernel
theorem d_L_law_220 : decode code 220 = .ok (.iconst 2, 1) := by decide +kernel
theorem d_L_law_221 : decode code 221 = .ok (.iadd, 1) := by decide +kernel
theorem d_L_law_222 : decode code 222 = .ok (.iaload, 1) := by decide +kernel
theorem d_L_law_223 : decode code 223 = .ok (.aload_n 0, 1) := by decide +kernel
theorem d_L_law_224 : decode code 224 = .ok (.iload_n 3, 1) := by decide +kernel
theorem d_L_law_225 : decode code 225 = .ok (.iconst 3, 1) := by decide +kernel
theorem d_L_law_226 : decode code 226 = .ok (.iadd, 1) := by decide +kernel
theorem d_L_law_227 : decode code 227 = .ok (.iaload, 1) := by decide +kernel
theorem d_L_law_228 : decode code 228 = .ok (.aload_n 0, 1) := by decide +kernel
theorem d_L_law_229 : decode code 229 = .ok (.iload_n 3, 1) := by decide +kernel
theorem d_L_law_230 : decode code 230 = .ok (.iconst 4, 1) := by decide +kernel
theorem d_L_law_231 : decode code 231 = .ok (.iadd, 1) := by decide +kernel
theorem d_L_law_232 : decode code 232 = .ok (.iaload, 1) := by decide +kernel
theorem d_L_law_233 : decode code 233 = .ok (.invokevirtual 33, 3) := by decide +kernel
theorem d_L_law_236 : decode code 236 = .ok (.aload_n 2, 1) := by decide +kernel
theorem d_L_law_237 : decode code 237 = .ok (.aload_n 0, 1) := by decide +kernel
theorem d_L_law_238 : decode code 238 = .ok (.iload_n 3, 1) := by decide +kernel
theorem d_L_law_239 : decode code 239 = .ok (.iconst 1, 1) := by decide +kernel
theorem d_L_law_240 : decode code 240 = .ok (.iadd, 1) := by decide +kernel
theorem d_L_law_241 : decode code 241 = .ok (.iaload, 1) := by decide +kernel
theorem d_L_law_242 : decode code 242 = .ok (.aload_n 0, 1) := by decide +kernel
theorem d_L_law_243 : decode code 243 = .ok (.iload_n 3, 1) := by decide +kernel
theorem d_L_law_244 : decode code 244 = .ok (.iconst 2, 1) := by decide +kernel
theorem d_L_law_245 : decode code 245 = .ok (.iadd, 1) := by decide +kernel
theorem d_L_law_246 : decode code 246 = .ok (.iaload, 1) := by decide +kernel
theorem d_L_law_247 : decode code 247 = .ok (.aload_n 0, 1) := by decide +kernel
theorem d_L_law_248 : decode code 248 = .ok (.iload_n 3, 1) := by decide +kernel
theorem d_L_law_249 : decode code 249 = .ok (.iconst 3, 1) := by decide +kernel
theorem d_L_law_250 : decode code 250 = .ok (.iadd, 1) := by decide +kernel
theorem d_L_law_251 : decode code 251 = .ok (.iaload, 1) := by decide +kernel
theorem d_L_law_252 : decode code 252 = .ok (.aload_n 0, 1) := by decide +kernel
theorem d_L_law_253 : decode code 253 = .ok (.iload_n 3, 1) := by decide +kernel
theorem d_L_law_254 : decode code 254 = .ok (.iconst 4, 1) := by decide +kernel
theorem d_L_law_255 : decode code 255 = .ok (.iadd, 1) := by decide +kernel
theorem d_L_law_256 : decode code 256 = .ok (.iaload, 1) := by decide +kernel
theorem d_L_law_257 : decode code 257 = .ok (.invokevirtual 37, 3) := by decide +kernel
theorem d_L_law_260 : decode code 260 = .ok (.if_icmp .eq 372, 3) := by decide +kernel
theorem d_L_law_263 : decode code 263 = .ok (.iconst 0, 1) := by decide +kernel
theorem d_L_law_264 : decode code 264 = .ok (.ireturn, 1) := by decide +kernel
theorem d_L_law_265 : decode code 265 = .ok (.aload_n 1, 1) := by decide +kernel
theorem d_L_law_266 : decode code 266 = .ok (.aload_n 0, 1) := by decide +kernel
theorem d_L_law_267 : decode code 267 = .ok (.iload_n 3, 1) := by decide +kernel
theorem d_L_law_268 : decode code 268 = .ok (.iconst 1, 1) := by decide +kernel
theorem d_L_law_269 : decode code 269 = .ok (.iadd, 1) := by decide +kernel
theorem d_L_law_270 : decode code 270 = .ok (.iaload, 1) := by decide +kernel
theorem d_L_law_271 : decode code 271 = .ok (.aload_n 0, 1) := by decide +kernel
theorem d_L_law_272 : decode code 272 = .ok (.iload_n 3, 1) := by decide +kernel
theorem d_L_law_273 : decode code 273 = .ok (.iconst 2, 1) := by decide +kernel
theorem d_L_law_274 : decode code 274 = .ok (.iadd, 1) := by decide +kernel
theorem d_L_law_275 : decode code 275 = .ok (.iaload, 1) := by decide +kernel
theorem d_L_law_276 : decode code 276 = .ok (.aload_n 0, 1) := by decide +kernel
theorem d_L_law_277 : decode code 277 = .ok (.iload_n 3, 1) := by decide +kernel
theorem d_L_law_278 : decode code 278 = .ok (.iconst 3, 1) := by decide +kernel
theorem d_L_law_279 : decode code 279 = .ok (.iadd, 1) := by decide +kernel
theorem d_L_law_280 : decode code 280 = .ok (.iaload, 1) := by decide +kernel
theorem d_L_law_281 : decode code 281 = .ok (.i2l, 1) := by decide +kernel
theorem d_L_law_282 : decode code 282 = .ok (.bipush 32, 2) := by decide +kernel
theorem d_L_law_284 : decode code 284 = .ok (.lshl, 1) := by decide +kernel
theorem d_L_law_285 : decode code 285 = .ok (.aload_n 0, 1) := by decide +kernel
theorem d_L_law_286 : decode code 286 = .ok (.iload_n 3, 1) := by decide +kernel
theorem d_L_law_287 : decode code 287 = .ok (.iconst 4, 1) := by decide +kernel
theorem d_L_law_288 : decode code 288 = .ok (.iadd, 1) := by decide +kernel
theorem d_L_law_289 : decode code 289 = .ok (.iaload, 1) := by decide +kernel
theorem d_L_law_290 : decode code 290 = .ok (.i2l, 1) := by decide +kernel
theorem d_L_law_291 : decode code 291 = .ok (.ldc2_w 26, 3) := by decide +kernel
theorem d_L_law_294 : decode code 294 = .ok (.land, 1) := by decide +kernel
