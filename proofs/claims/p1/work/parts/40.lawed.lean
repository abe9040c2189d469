theorem el_0 : decode code 0 = .ok (.new 8, 3) := by decide +kernel
theorem el_3 : decode code 3 = .ok (.dup, 1) := by decide +kernel
theorem el_4 : decode code 4 = .ok (.invokespecial 19, 3) := by decide +kernel
theorem el_7 : decode code 7 = .ok (.astore_n 1, 1) := by decide +kernel
theorem el_8 : decode code 8 = .ok (.new 20, 3) := by decide +kernel
theorem el_11 : decode code 11 = .ok (.dup, 1) := by decide +kernel
theorem el_12 : decode code 12 = .ok (.invokespecial 22, 3) := by decide +kernel
theorem el_15 : decode code 15 = .ok (.astore_n 2, 1) := by decide +kernel
theorem el_16 : decode code 16 = .ok (.iconst 1, 1) := by decide +kernel
theorem el_17 : decode code 17 = .ok (.newarray .long, 2) := by decide +kernel
theorem el_19 : decode code 19 = .ok (.astore_n 3, 1) := by decide +kernel
theorem el_20 : decode code 20 = .ok (.iconst 0, 1) := by decide +kernel
theorem el_21 : decode code 21 = .ok (.istore 4, 2) := by decide +kernel
theorem el_23 : decode code 23 = .ok (.iload 4, 2) := by decide +kernel
theorem el_25 : decode code 25 = .ok (.aload_n 0, 1) := by decide +kernel
theorem el_26 : decode code 26 = .ok (.arraylength, 1) := by decide +kernel
theorem el_27 : decode code 27 = .ok (.iconst 3, 1) := by decide +kernel
theorem el_28 : decode code 28 = .ok (.isub, 1) := by decide +kernel
theorem el_29 : decode code 29 = .ok (.if_icmp .gt 895, 3) := by decide +kernel
theorem el_32 : decode code 32 = .ok (.aload_n 0, 1) := by decide +kernel
theorem el_33 : decode code 33 = .ok (.iload 4, 2) := by decide +kernel
theorem el_35 : decode code 35 = .ok (.iaload, 1) := by decide +kernel
theorem el_36 : decode code 36 = .ok (.bipush 31, 2) := by decide +kernel
theorem el_38 : decode code 38 = .ok (.iand, 1) := by decide +kernel
theorem el_39 : decode code 39 = .ok (.tableswitch 879 0 28 #[129, 154, 179, 192, 217, 230, 298, 323, 336, 349, 362, 375, 412, 449, 486, 523, 548, 585, 598, 611, 624, 661, 698, 735, 748, 761, 774, 799, 824], 129) := by decide +kernel
theorem el_168 : decode code 168 = .ok (.aload_n 1, 1) := by decide +kernel
theorem el_169 : decode code 169 = .ok (.aload_n 0, 1) := by decide +kernel
theorem el_170 : decode code 170 = .ok (.iload 4, 2) := by decide +kernel
theorem el_172 : decode code 172 = .ok (.iconst 1, 1) := by decide +kernel
theorem el_173 : decode code 173 = .ok (.iadd, 1) := by decide +kernel
theorem el_174 : decode code 174 = .ok (.iaload, 1) := by decide +kernel
theorem el_175 : decode code 175 = .ok (.invokevirtual 23, 3) := by decide +kernel
theorem el_178 : decode code 178 = .ok (.aload_n 2, 1) := by decide +kernel
theorem el_179 : decode code 179 = .ok (.aload_n 0, 1) := by decide +kernel
theorem el_180 : decode code 180 = .ok (.iload 4, 2) := by decide +kernel
theorem el_182 : decode code 182 = .ok (.iconst 1, 1) := by decide +kernel
theorem el_183 : decode code 183 = .ok (.iadd, 1) := by decide +kernel
theorem el_184 : decode code 184 = .ok (.iaload, 1) := by decide +kernel
theorem el_185 : decode code 185 = .ok (.invokevirtual 27, 3) := by decide +kernel
theorem el_188 : decode code 188 = .ok (.if_icmp .eq 730, 3) := by decide +kernel
theorem el_193 : decode code 193 = .ok (.aload_n 1, 1) := by decide +kernel
theorem el_194 : decode code 194 = .ok (.aload_n 0, 1) := by decide +kernel
theorem el_195 : decode code 195 = .ok (.iload 4, 2) := by decide +kernel
theorem el_197 : decode code 197 = .ok (.iconst 1, 1) := by decide +kernel
theorem el_198 : decode code 198 = .ok (.iadd, 1) := by decide +kernel
theorem el_199 : decode code 199 = .ok (.iaload, 1) := by decide +kernel
theorem el_200 : decode code 200 = .ok (.invokevirtual 28, 3) := by decide +kernel
theorem el_203 : decode code 203 = .ok (.aload_n 2, 1) := by decide +kernel
theorem el_204 : decode code 204 = .ok (.aload_n 0, 1) := by decide +kernel
theorem el_205 : decode code 205 = .ok (.iload 4, 2) := by decide +kernel
theorem el_207 : decode code 207 = .ok (.iconst 1, 1) := by decide +kernel
theorem el_208 : decode code 208 = .ok (.iadd, 1) := by decide +kernel
theorem el_209 : decode code 209 = .ok (.iaload, 1) := by decide +kernel
theorem el_210 : decode code 210 = .ok (.invokevirtual 32, 3) := by decide +kernel
theorem el_213 : decode code 213 = .ok (.if_icmp .eq 705, 3) := by decide +kernel
theorem el_218 : decode code 218 = .ok (.aload_n 1, 1) := by decide +kernel
theorem el_219 : decode code 219 = .ok (.invokevirtual 33, 3) := by decide +kernel
theorem el_222 : decode code 222 = .ok (.aload_n 2, 1) := by decide +kernel
theorem el_223 : decode code 223 = .ok (.invokevirtual 37, 3) := by decide +kernel
theorem el_226 : decode code 226 = .ok (.if_icmp .eq 692, 3) := by decide +kernel
theorem el_231 : decode code 231 = .ok (.aload_n 1, 1) := by decide +kernel
theorem el_232 : decode code 232 = .ok (.aload_n 0, 1) := by decide +kernel
theorem el_233 : decode code 233 = .ok (.iload 4, 2) := by decide +kernel
theorem el_235 : decode code 235 = .ok (.iconst 1, 1) := by decide +kernel
theorem el_236 : decode code 236 = .ok (.iadd, 1) := by decide +kernel
theorem el_237 : decode code 237 = .ok (.iaload, 1) := by decide +kernel
theorem el_238 : decode code 238 = .ok (.invokevirtual 38, 3) := by decide +kernel
theorem el_241 : decode code 241 = .ok (.aload_n 2, 1) := by decide +kernel
theorem el_242 : decode code 242 = .ok (.aload_n 0, 1) := by decide +kernel
theorem el_243 : decode code 243 = .ok (.iload 4, 2) := by decide +kernel
theorem el_245 : decode code 245 = .ok (.iconst 1, 1) := by decide +kernel
theorem el_246 : decode code 246 = .ok (.iadd, 1) := by decide +kernel
theorem el_247 : decode code 247 = .ok (.iaload, 1) := by decide +kernel
theorem el_248 : decode code 248 = .ok (.invokevirtual 41, 3) := by decide +kernel
theorem el_251 : decode code 251 = .ok (.if_icmp .eq 667, 3) := by decide +kernel
theorem el_256 : decode code 256 = .ok (.aload_n 1, 1) := by decide +kernel
theorem el_257 : decode code 257 = .ok (.invokevirtual 42, 3) := by decide +kernel
theorem el_260 : decode code 260 = .ok (.aload_n 2, 1) := by decide +kernel
theorem el_261 : decode code 261 = .ok (.invokevirtual 45, 3) := by decide +kernel
theorem el_264 : decode code 264 = .ok (.if_icmp .eq 654, 3) := by decide +kernel
theorem el_269 : decode code 269 = .ok (.aload_n 1, 1) := by decide +kernel
theorem el_270 : decode code 270 = .ok (.aload_n 0, 1) := by decide +kernel
theorem el_271 : decode code 271 = .ok (.iload 4, 2) := by decide +kernel
theorem el_273 : decode code 273 = .ok (.iconst 1, 1) := by decide +kernel
theorem el_274 : decode code 274 = .ok (.iadd, 1) := by decide +kernel
theorem el_275 : decode code 275 = .ok (.iaload, 1) := by decide +kernel
theorem el_276 : decode code 276 = .ok (.aload_n 0, 1) := by decide +kernel
theorem el_277 : decode code 277 = .ok (.iload 4, 2) := by decide +kernel
theorem el_279 : decode code 279 = .ok (.iconst 2, 1) := by decide +kernel
theorem el_280 : decode code 280 = .ok (.iadd, 1) := by decide +kernel
theorem el_281 : decode code 281 = .ok (.iaload, 1) := by decide +kernel
theorem el_282 : decode code 282 = .ok (.aload_n 3, 1) := by decide +kernel
theorem el_283 : decode code 283 = .ok (.invokestatic 46, 3) := by decide +kernel
theorem el_286 : decode code 286 = .ok (.istore 5, 2) := by decide +kernel
theorem el_288 : decode code 288 = .ok (.aload_n 2, 1) := by decide +kernel
theorem el_289 : decode code 289 = .ok (.aload_n 0, 1) := by decide +kernel
theorem el_290 : decode code 290 = .ok (.iload 4, 2) := by decide +kernel
theorem el_292 : decode code 292 = .ok (.iconst 1, 1) := by decide +kernel
theorem el_293 : decode code 293 = .ok (.iadd, 1) := by decide +kernel
theorem el_294 : decode code 294 = .ok (.iaload, 1) := by decide +kernel
theorem el_295 : decode code 295 = .ok (.aload_n 0, 1) := by decide +kernel
theorem el_296 : decode code 296 = .ok (.iload 4, 2) := by decide +kernel
theorem el_298 : decode code 298 = .ok (.iconst 2, 1) := by decide +kernel
theorem el_299 : decode code 299 = .ok (.iadd, 1) := by decide +kernel
theorem el_300 : decode code 300 = .ok (.iaload, 1) := by decide +kernel
theorem el_301 : decode code 301 = .ok (.invokevirtual 51, 3) := by decide +kernel
theorem el_304 : decode code 304 = .ok (.istore 6, 2) := by decide +kernel
theorem el_306 : decode code 306 = .ok (.aload_n 2, 1) := by decide +kernel
theorem el_307 : decode code 307 = .ok (.invokevirtual 52, 3) := by decide +kernel
theorem el_310 : decode code 310 = .ok (.iload 5, 2) := by decide +kernel
