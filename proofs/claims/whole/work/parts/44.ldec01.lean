theorem dL_law_176 : decode code 176 = .ok (.aload_n 1, 1) := by decide +kernel
theorem dL_law_177 : decode code 177 = .ok (.aload_n 0, 1) := by decide +kernel
theorem dL_law_178 : decode code 178 = .ok (.iload 4, 2) := by decide +kernel
theorem dL_law_180 : decode code 180 = .ok (.iconst 1, 1) := by decide +kernel
theorem dL_law_181 : decode code 181 = .ok (.iadd, 1) := by decide +kernel
theorem dL_law_182 : decode code 182 = .ok (.iaload, 1) := by decide +kernel
theorem dL_law_183 : decode code 183 = .ok (.invokestatic 79, 3) := by decide +kernel
theorem dL_law_186 : decode code 186 = .ok (.istore 5, 2) := by decide +kernel
theorem dL_law_188 : decode code 188 = .ok (.aload_n 2, 1) := by decide +kernel
theorem dL_law_189 : decode code 189 = .ok (.aload_n 0, 1) := by decide +kernel
theorem dL_law_190 : decode code 190 = .ok (.iload 4, 2) := by decide +kernel
theorem dL_law_192 : decode code 192 = .ok (.iconst 1, 1) := by decide +kernel
theorem dL_law_193 : decode code 193 = .ok (.iadd, 1) := by decide +kernel
theorem dL_law_194 : decode code 194 = .ok (.iaload, 1) := by decide +kernel
theorem dL_law_195 : decode code 195 = .ok (.invokevirtual 82, 3) := by decide +kernel
theorem dL_law_198 : decode code 198 = .ok (.aload_n 2, 1) := by decide +kernel
theorem dL_law_199 : decode code 199 = .ok (.invokevirtual 75, 3) := by decide +kernel
theorem dL_law_202 : decode code 202 = .ok (.iload 5, 2) := by decide +kernel
theorem dL_law_204 : decode code 204 = .ok (.if_icmp .eq 5, 3) := by decide +kernel
theorem dL_law_207 : decode code 207 = .ok (.iconst 0, 1) := by decide +kernel
theorem dL_law_208 : decode code 208 = .ok (.ireturn, 1) := by decide +kernel
theorem dL_law_209 : decode code 209 = .ok (.goto 871, 3) := by decide +kernel
theorem dL_law_212 : decode code 212 = .ok (.aload_n 1, 1) := by decide +kernel
theorem dL_law_213 : decode code 213 = .ok (.invokevirtual 83, 3) := by decide +kernel
theorem dL_law_216 : decode code 216 = .ok (.aload_n 2, 1) := by decide +kernel
theorem dL_law_217 : decode code 217 = .ok (.invokevirtual 86, 3) := by decide +kernel
theorem dL_law_220 : decode code 220 = .ok (.lcmp, 1) := by decide +kernel
theorem dL_law_221 : decode code 221 = .ok (.ifCond .eq 859, 3) := by decide +kernel
theorem dL_law_224 : decode code 224 = .ok (.iconst 0, 1) := by decide +kernel
theorem dL_law_225 : decode code 225 = .ok (.ireturn, 1) := by decide +kernel
theorem dL_law_226 : decode code 226 = .ok (.aload_n 1, 1) := by decide +kernel
theorem dL_law_227 : decode code 227 = .ok (.aload_n 3, 1) := by decide +kernel
theorem dL_law_228 : decode code 228 = .ok (.invokestatic 87, 3) := by decide +kernel
theorem dL_law_231 : decode code 231 = .ok (.istore 5, 2) := by decide +kernel
theorem dL_law_233 : decode code 233 = .ok (.aload_n 2, 1) := by decide +kernel
theorem dL_law_234 : decode code 234 = .ok (.invokevirtual 90, 3) := by decide +kernel
theorem dL_law_237 : decode code 237 = .ok (.lstore 6, 2) := by decide +kernel
theorem dL_law_239 : decode code 239 = .ok (.aload_n 2, 1) := by decide +kernel
theorem dL_law_240 : decode code 240 = .ok (.invokevirtual 75, 3) := by decide +kernel
theorem dL_law_243 : decode code 243 = .ok (.iload 5, 2) := by decide +kernel
theorem dL_law_245 : decode code 245 = .ok (.if_icmp .eq 5, 3) := by decide +kernel
theorem dL_law_248 : decode code 248 = .ok (.iconst 0, 1) := by decide +kernel
theorem dL_law_249 : decode code 249 = .ok (.ireturn, 1) := by decide +kernel
theorem dL_law_250 : decode code 250 = .ok (.iload 5, 2) := by decide +kernel
theorem dL_law_252 : decode code 252 = .ok (.ifCond .ne 14, 3) := by decide +kernel
theorem dL_law_255 : decode code 255 = .ok (.aload_n 3, 1) := by decide +kernel
theorem dL_law_256 : decode code 256 = .ok (.iconst 0, 1) := by decide +kernel
theorem dL_law_257 : decode code 257 = .ok (.laload, 1) := by decide +kernel
theorem dL_law_258 : decode code 258 = .ok (.lload 6, 2) := by decide +kernel
theorem dL_law_260 : decode code 260 = .ok (.lcmp, 1) := by decide +kernel
theorem dL_law_261 : decode code 261 = .ok (.ifCond .eq 5, 3) := by decide +kernel
theorem dL_law_264 : decode code 264 = .ok (.iconst 0, 1) := by decide +kernel
theorem dL_law_265 : decode code 265 = .ok (.ireturn, 1) := by decide +kernel
theorem dL_law_266 : decode code 266 = .ok (.goto 814, 3) := by decide +kernel
theorem dL_law_269 : decode code 269 = .ok (.aload_n 1, 1) := by decide +kernel
theorem dL_law_270 : decode code 270 = .ok (.aload_n 0, 1) := by decide +kernel
theorem dL_law_271 : decode code 271 = .ok (.iload 4, 2) := by decide +kernel
theorem dL_law_273 : decode code 273 = .ok (.iconst 1, 1) := by decide +kernel
theorem dL_law_274 : decode code 274 = .ok (.iadd, 1) := by decide +kernel
theorem dL_law_275 : decode code 275 = .ok (.iaload, 1) := by decide +kernel
