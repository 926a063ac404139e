/-! decode rows -/
theorem xj_A_law_180 : decode xb_A_law 180 = .ok (.iload 5, 2) := by decide +kernel
theorem xj_A_law_182 : decode xb_A_law 182 = .ok (.ifCond .ne 15, 3) := by decide +kernel
theorem xj_A_law_185 : decode xb_A_law 185 = .ok (.aload_n 3, 1) := by decide +kernel
theorem xj_A_law_186 : decode xb_A_law 186 = .ok (.iconst 0, 1) := by decide +kernel
theorem xj_A_law_187 : decode xb_A_law 187 = .ok (.laload, 1) := by decide +kernel
theorem xj_A_law_188 : decode xb_A_law 188 = .ok (.iload 6, 2) := by decide +kernel
theorem xj_A_law_190 : decode xb_A_law 190 = .ok (.i2l, 1) := by decide +kernel
theorem xj_A_law_191 : decode xb_A_law 191 = .ok (.lcmp, 1) := by decide +kernel
theorem xj_A_law_192 : decode xb_A_law 192 = .ok (.ifCond .eq 5, 3) := by decide +kernel
theorem xj_A_law_195 : decode xb_A_law 195 = .ok (.iconst 0, 1) := by decide +kernel
theorem xj_A_law_196 : decode xb_A_law 196 = .ok (.ireturn, 1) := by decide +kernel
theorem xj_A_law_197 : decode xb_A_law 197 = .ok (.goto 851, 3) := by decide +kernel
theorem xj_A_law_200 : decode xb_A_law 200 = .ok (.aload_n 1, 1) := by decide +kernel
theorem xj_A_law_201 : decode xb_A_law 201 = .ok (.aload_n 0, 1) := by decide +kernel
theorem xj_A_law_202 : decode xb_A_law 202 = .ok (.iload 4, 2) := by decide +kernel
theorem xj_A_law_204 : decode xb_A_law 204 = .ok (.iconst 1, 1) := by decide +kernel
theorem xj_A_law_205 : decode xb_A_law 205 = .ok (.iadd, 1) := by decide +kernel
theorem xj_A_law_206 : decode xb_A_law 206 = .ok (.iaload, 1) := by decide +kernel
theorem xj_A_law_207 : decode xb_A_law 207 = .ok (.aload_n 0, 1) := by decide +kernel
theorem xj_A_law_208 : decode xb_A_law 208 = .ok (.iload 4, 2) := by decide +kernel
theorem xj_A_law_210 : decode xb_A_law 210 = .ok (.iconst 2, 1) := by decide +kernel
theorem xj_A_law_211 : decode xb_A_law 211 = .ok (.iadd, 1) := by decide +kernel
theorem xj_A_law_212 : decode xb_A_law 212 = .ok (.iaload, 1) := by decide +kernel
theorem xj_A_law_213 : decode xb_A_law 213 = .ok (.aload_n 0, 1) := by decide +kernel
theorem xj_A_law_214 : decode xb_A_law 214 = .ok (.iload 4, 2) := by decide +kernel
theorem xj_A_law_216 : decode xb_A_law 216 = .ok (.iconst 3, 1) := by decide +kernel
theorem xj_A_law_217 : decode xb_A_law 217 = .ok (.iadd, 1) := by decide +kernel
theorem xj_A_law_218 : decode xb_A_law 218 = .ok (.iaload, 1) := by decide +kernel
theorem xj_A_law_219 : decode xb_A_law 219 = .ok (.aload_n 3, 1) := by decide +kernel
theorem xj_A_law_220 : decode xb_A_law 220 = .ok (.invokestatic 85, 3) := by decide +kernel
theorem xj_A_law_223 : decode xb_A_law 223 = .ok (.istore 5, 2) := by decide +kernel
theorem xj_A_law_225 : decode xb_A_law 225 = .ok (.aload_n 2, 1) := by decide +kernel
theorem xj_A_law_226 : decode xb_A_law 226 = .ok (.aload_n 0, 1) := by decide +kernel
theorem xj_A_law_227 : decode xb_A_law 227 = .ok (.iload 4, 2) := by decide +kernel
theorem xj_A_law_229 : decode xb_A_law 229 = .ok (.iconst 1, 1) := by decide +kernel
theorem xj_A_law_230 : decode xb_A_law 230 = .ok (.iadd, 1) := by decide +kernel
theorem xj_A_law_231 : decode xb_A_law 231 = .ok (.iaload, 1) := by decide +kernel
theorem xj_A_law_232 : decode xb_A_law 232 = .ok (.aload_n 0, 1) := by decide +kernel
theorem xj_A_law_233 : decode xb_A_law 233 = .ok (.iload 4, 2) := by decide +kernel
theorem xj_A_law_235 : decode xb_A_law 235 = .ok (.iconst 2, 1) := by decide +kernel
theorem xj_A_law_236 : decode xb_A_law 236 = .ok (.iadd, 1) := by decide +kernel
theorem xj_A_law_237 : decode xb_A_law 237 = .ok (.iaload, 1) := by decide +kernel
theorem xj_A_law_238 : decode xb_A_law 238 = .ok (.aload_n 0, 1) := by decide +kernel
theorem xj_A_law_239 : decode xb_A_law 239 = .ok (.iload 4, 2) := by decide +kernel
theorem xj_A_law_241 : decode xb_A_law 241 = .ok (.iconst 3, 1) := by decide +kernel
theorem xj_A_law_242 : decode xb_A_law 242 = .ok (.iadd, 1) := by decide +kernel
theorem xj_A_law_243 : decode xb_A_law 243 = .ok (.iaload, 1) := by decide +kernel
theorem xj_A_law_244 : decode xb_A_law 244 = .ok (.invokevirtual 88, 3) := by decide +kernel
theorem xj_A_law_247 : decode xb_A_law 247 = .ok (.istore 6, 2) := by decide +kernel
theorem xj_A_law_249 : decode xb_A_law 249 = .ok (.aload_n 2, 1) := by decide +kernel
theorem xj_A_law_250 : decode xb_A_law 250 = .ok (.invokevirtual 78, 3) := by decide +kernel
theorem xj_A_law_253 : decode xb_A_law 253 = .ok (.iload 5, 2) := by decide +kernel
theorem xj_A_law_255 : decode xb_A_law 255 = .ok (.if_icmp .eq 5, 3) := by decide +kernel
theorem xj_A_law_258 : decode xb_A_law 258 = .ok (.iconst 0, 1) := by decide +kernel
theorem xj_A_law_259 : decode xb_A_law 259 = .ok (.ireturn, 1) := by decide +kernel
theorem xj_A_law_260 : decode xb_A_law 260 = .ok (.iload 5, 2) := by decide +kernel
theorem xj_A_law_262 : decode xb_A_law 262 = .ok (.ifCond .ne 15, 3) := by decide +kernel
theorem xj_A_law_265 : decode xb_A_law 265 = .ok (.aload_n 3, 1) := by decide +kernel
theorem xj_A_law_266 : decode xb_A_law 266 = .ok (.iconst 0, 1) := by decide +kernel
theorem xj_A_law_267 : decode xb_A_law 267 = .ok (.laload, 1) := by decide +kernel
