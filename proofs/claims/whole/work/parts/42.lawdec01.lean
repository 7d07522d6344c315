theorem dL_law_192 : decode code 192 = .ok (.aload_n 1, 1) := by decide +kernel
theorem dL_law_193 : decode code 193 = .ok (.aload_n 0, 1) := by decide +kernel
theorem dL_law_194 : decode code 194 = .ok (.iload 4, 2) := by decide +kernel
theorem dL_law_196 : decode code 196 = .ok (.iconst 1, 1) := by decide +kernel
theorem dL_law_197 : decode code 197 = .ok (.iadd, 1) := by decide +kernel
theorem dL_law_198 : decode code 198 = .ok (.iaload, 1) := by decide +kernel
theorem dL_law_199 : decode code 199 = .ok (.aload_n 0, 1) := by decide +kernel
theorem dL_law_200 : decode code 200 = .ok (.iload 4, 2) := by decide +kernel
theorem dL_law_202 : decode code 202 = .ok (.iconst 2, 1) := by decide +kernel
theorem dL_law_203 : decode code 203 = .ok (.iadd, 1) := by decide +kernel
theorem dL_law_204 : decode code 204 = .ok (.iaload, 1) := by decide +kernel
theorem dL_law_205 : decode code 205 = .ok (.aload_n 3, 1) := by decide +kernel
theorem dL_law_206 : decode code 206 = .ok (.invokestatic 89, 3) := by decide +kernel
theorem dL_law_209 : decode code 209 = .ok (.istore 5, 2) := by decide +kernel
theorem dL_law_211 : decode code 211 = .ok (.aload_n 2, 1) := by decide +kernel
theorem dL_law_212 : decode code 212 = .ok (.aload_n 0, 1) := by decide +kernel
theorem dL_law_213 : decode code 213 = .ok (.iload 4, 2) := by decide +kernel
theorem dL_law_215 : decode code 215 = .ok (.iconst 1, 1) := by decide +kernel
theorem dL_law_216 : decode code 216 = .ok (.iadd, 1) := by decide +kernel
theorem dL_law_217 : decode code 217 = .ok (.iaload, 1) := by decide +kernel
theorem dL_law_218 : decode code 218 = .ok (.aload_n 0, 1) := by decide +kernel
theorem dL_law_219 : decode code 219 = .ok (.iload 4, 2) := by decide +kernel
theorem dL_law_221 : decode code 221 = .ok (.iconst 2, 1) := by decide +kernel
theorem dL_law_222 : decode code 222 = .ok (.iadd, 1) := by decide +kernel
theorem dL_law_223 : decode code 223 = .ok (.iaload, 1) := by decide +kernel
theorem dL_law_224 : decode code 224 = .ok (.invokevirtual 92, 3) := by decide +kernel
theorem dL_law_227 : decode code 227 = .ok (.istore 6, 2) := by decide +kernel
theorem dL_law_229 : decode code 229 = .ok (.aload_n 2, 1) := by decide +kernel
theorem dL_law_230 : decode code 230 = .ok (.invokevirtual 85, 3) := by decide +kernel
theorem dL_law_233 : decode code 233 = .ok (.iload 5, 2) := by decide +kernel
theorem dL_law_235 : decode code 235 = .ok (.if_icmp .eq 5, 3) := by decide +kernel
theorem dL_law_238 : decode code 238 = .ok (.iconst 0, 1) := by decide +kernel
theorem dL_law_239 : decode code 239 = .ok (.ireturn, 1) := by decide +kernel
theorem dL_law_240 : decode code 240 = .ok (.iload 5, 2) := by decide +kernel
theorem dL_law_242 : decode code 242 = .ok (.ifCond .ne 15, 3) := by decide +kernel
theorem dL_law_245 : decode code 245 = .ok (.aload_n 3, 1) := by decide +kernel
theorem dL_law_246 : decode code 246 = .ok (.iconst 0, 1) := by decide +kernel
theorem dL_law_247 : decode code 247 = .ok (.laload, 1) := by decide +kernel
theorem dL_law_248 : decode code 248 = .ok (.iload 6, 2) := by decide +kernel
theorem dL_law_250 : decode code 250 = .ok (.i2l, 1) := by decide +kernel
theorem dL_law_251 : decode code 251 = .ok (.lcmp, 1) := by decide +kernel
theorem dL_law_252 : decode code 252 = .ok (.ifCond .eq 5, 3) := by decide +kernel
theorem dL_law_255 : decode code 255 = .ok (.iconst 0, 1) := by decide +kernel
theorem dL_law_256 : decode code 256 = .ok (.ireturn, 1) := by decide +kernel
theorem dL_law_257 : decode code 257 = .ok (.goto 1011, 3) := by decide +kernel
theorem dL_law_260 : decode code 260 = .ok (.aload_n 1, 1) := by decide +kernel
theorem dL_law_261 : decode code 261 = .ok (.aload_n 0, 1) := by decide +kernel
theorem dL_law_262 : decode code 262 = .ok (.iload 4, 2) := by decide +kernel
theorem dL_law_264 : decode code 264 = .ok (.iconst 1, 1) := by decide +kernel
theorem dL_law_265 : decode code 265 = .ok (.iadd, 1) := by decide +kernel
theorem dL_law_266 : decode code 266 = .ok (.iaload, 1) := by decide +kernel
theorem dL_law_267 : decode code 267 = .ok (.aload_n 0, 1) := by decide +kernel
theorem dL_law_268 : decode code 268 = .ok (.iload 4, 2) := by decide +kernel
theorem dL_law_270 : decode code 270 = .ok (.iconst 2, 1) := by decide +kernel
theorem dL_law_271 : decode code 271 = .ok (.iadd, 1) := by decide +kernel
theorem dL_law_272 : decode code 272 = .ok (.iaload, 1) := by decide +kernel
theorem dL_law_273 : decode code 273 = .ok (.invokestatic 93, 3) := by decide +kernel
theorem dL_law_276 : decode code 276 = .ok (.istore 5, 2) := by decide +kernel
theorem dL_law_278 : decode code 278 = .ok (.aload_n 2, 1) := by decide +kernel
theorem dL_law_279 : decode code 279 = .ok (.aload_n 0, 1) := by decide +kernel
