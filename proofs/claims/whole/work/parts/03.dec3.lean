theorem dX7_net_140 : decode cX7_net 140 = .ok (.iaload, 1) := by decide +kernel
theorem dX7_net_141 : decode cX7_net 141 = .ok (.iastore, 1) := by decide +kernel
theorem dX7_net_142 : decode cX7_net 142 = .ok (.iinc 1 1, 3) := by decide +kernel
theorem dX7_net_145 : decode cX7_net 145 = .ok (.goto (-41), 3) := by decide +kernel
theorem dX7_net_148 : decode cX7_net 148 = .ok (.iconst 0, 1) := by decide +kernel
theorem dX7_net_149 : decode cX7_net 149 = .ok (.istore_n 1, 1) := by decide +kernel
theorem dX7_net_150 : decode cX7_net 150 = .ok (.iload_n 1, 1) := by decide +kernel
theorem dX7_net_151 : decode cX7_net 151 = .ok (.iconst 2, 1) := by decide +kernel
theorem dX7_net_152 : decode cX7_net 152 = .ok (.aload_n 0, 1) := by decide +kernel
theorem dX7_net_153 : decode cX7_net 153 = .ok (.getfield 126, 3) := by decide +kernel
theorem dX7_net_156 : decode cX7_net 156 = .ok (.imul, 1) := by decide +kernel
theorem dX7_net_157 : decode cX7_net 157 = .ok (.if_icmp .ge 21, 3) := by decide +kernel
theorem dX7_net_160 : decode cX7_net 160 = .ok (.aload_n 0, 1) := by decide +kernel
theorem dX7_net_161 : decode cX7_net 161 = .ok (.getfield 16, 3) := by decide +kernel
theorem dX7_net_164 : decode cX7_net 164 = .ok (.iload_n 1, 1) := by decide +kernel
theorem dX7_net_165 : decode cX7_net 165 = .ok (.aload_n 0, 1) := by decide +kernel
theorem dX7_net_166 : decode cX7_net 166 = .ok (.getfield 34, 3) := by decide +kernel
theorem dX7_net_169 : decode cX7_net 169 = .ok (.iload_n 1, 1) := by decide +kernel
theorem dX7_net_170 : decode cX7_net 170 = .ok (.iaload, 1) := by decide +kernel
theorem dX7_net_171 : decode cX7_net 171 = .ok (.iastore, 1) := by decide +kernel
theorem dX7_net_172 : decode cX7_net 172 = .ok (.iinc 1 1, 3) := by decide +kernel
theorem dX7_net_175 : decode cX7_net 175 = .ok (.goto (-25), 3) := by decide +kernel
theorem dX7_net_178 : decode cX7_net 178 = .ok (.iconst 0, 1) := by decide +kernel
theorem dX7_net_179 : decode cX7_net 179 = .ok (.istore_n 1, 1) := by decide +kernel
theorem dX7_net_180 : decode cX7_net 180 = .ok (.iload_n 1, 1) := by decide +kernel
theorem dX7_net_181 : decode cX7_net 181 = .ok (.aload_n 0, 1) := by decide +kernel
theorem dX7_net_182 : decode cX7_net 182 = .ok (.getfield 129, 3) := by decide +kernel
theorem dX7_net_185 : decode cX7_net 185 = .ok (.if_icmp .ge 71, 3) := by decide +kernel
theorem dX7_net_188 : decode cX7_net 188 = .ok (.aload_n 0, 1) := by decide +kernel
theorem dX7_net_189 : decode cX7_net 189 = .ok (.getfield 28, 3) := by decide +kernel
theorem dX7_net_192 : decode cX7_net 192 = .ok (.iload_n 1, 1) := by decide +kernel
theorem dX7_net_193 : decode cX7_net 193 = .ok (.aload_n 0, 1) := by decide +kernel
theorem dX7_net_194 : decode cX7_net 194 = .ok (.getfield 37, 3) := by decide +kernel
theorem dX7_net_197 : decode cX7_net 197 = .ok (.iconst 4, 1) := by decide +kernel
theorem dX7_net_198 : decode cX7_net 198 = .ok (.iload_n 1, 1) := by decide +kernel
theorem dX7_net_199 : decode cX7_net 199 = .ok (.imul, 1) := by decide +kernel
theorem dX7_net_200 : decode cX7_net 200 = .ok (.iaload, 1) := by decide +kernel
theorem dX7_net_201 : decode cX7_net 201 = .ok (.iastore, 1) := by decide +kernel
theorem dX7_net_202 : decode cX7_net 202 = .ok (.aload_n 0, 1) := by decide +kernel
theorem dX7_net_203 : decode cX7_net 203 = .ok (.getfield 22, 3) := by decide +kernel
theorem dX7_net_206 : decode cX7_net 206 = .ok (.iload_n 1, 1) := by decide +kernel
theorem dX7_net_207 : decode cX7_net 207 = .ok (.aload_n 0, 1) := by decide +kernel
theorem dX7_net_208 : decode cX7_net 208 = .ok (.getfield 37, 3) := by decide +kernel
theorem dX7_net_211 : decode cX7_net 211 = .ok (.iconst 4, 1) := by decide +kernel
theorem dX7_net_212 : decode cX7_net 212 = .ok (.iload_n 1, 1) := by decide +kernel
theorem dX7_net_213 : decode cX7_net 213 = .ok (.imul, 1) := by decide +kernel
theorem dX7_net_214 : decode cX7_net 214 = .ok (.iconst 1, 1) := by decide +kernel
theorem dX7_net_215 : decode cX7_net 215 = .ok (.iadd, 1) := by decide +kernel
theorem dX7_net_216 : decode cX7_net 216 = .ok (.iaload, 1) := by decide +kernel
theorem dX7_net_217 : decode cX7_net 217 = .ok (.iastore, 1) := by decide +kernel
theorem dX7_net_218 : decode cX7_net 218 = .ok (.aload_n 0, 1) := by decide +kernel
theorem dX7_net_219 : decode cX7_net 219 = .ok (.getfield 19, 3) := by decide +kernel
theorem dX7_net_222 : decode cX7_net 222 = .ok (.iload_n 1, 1) := by decide +kernel
theorem dX7_net_223 : decode cX7_net 223 = .ok (.aload_n 0, 1) := by decide +kernel
theorem dX7_net_224 : decode cX7_net 224 = .ok (.getfield 37, 3) := by decide +kernel
theorem dX7_net_227 : decode cX7_net 227 = .ok (.iconst 4, 1) := by decide +kernel
theorem dX7_net_228 : decode cX7_net 228 = .ok (.iload_n 1, 1) := by decide +kernel
theorem dX7_net_229 : decode cX7_net 229 = .ok (.imul, 1) := by decide +kernel
theorem dX7_net_230 : decode cX7_net 230 = .ok (.iconst 2, 1) := by decide +kernel
theorem dX7_net_231 : decode cX7_net 231 = .ok (.iadd, 1) := by decide +kernel
theorem dX7_net_232 : decode cX7_net 232 = .ok (.iaload, 1) := by decide +kernel
theorem dX7_net_233 : decode cX7_net 233 = .ok (.iastore, 1) := by decide +kernel
theorem dX7_net_234 : decode cX7_net 234 = .ok (.aload_n 0, 1) := by decide +kernel
theorem dX7_net_235 : decode cX7_net 235 = .ok (.getfield 25, 3) := by decide +kernel
theorem dX7_net_238 : decode cX7_net 238 = .ok (.iload_n 1, 1) := by decide +kernel
theorem dX7_net_239 : decode cX7_net 239 = .ok (.aload_n 0, 1) := by decide +kernel
theorem dX7_net_240 : decode cX7_net 240 = .ok (.getfield 37, 3) := by decide +kernel
theorem dX7_net_243 : decode cX7_net 243 = .ok (.iconst 4, 1) := by decide +kernel
theorem dX7_net_244 : decode cX7_net 244 = .ok (.iload_n 1, 1) := by decide +kernel
theorem dX7_net_245 : decode cX7_net 245 = .ok (.imul, 1) := by decide +kernel
theorem dX7_net_246 : decode cX7_net 246 = .ok (.iconst 3, 1) := by decide +kernel
theorem dX7_net_247 : decode cX7_net 247 = .ok (.iadd, 1) := by decide +kernel
theorem dX7_net_248 : decode cX7_net 248 = .ok (.iaload, 1) := by decide +kernel
theorem dX7_net_249 : decode cX7_net 249 = .ok (.iastore, 1) := by decide +kernel
theorem dX7_net_250 : decode cX7_net 250 = .ok (.iinc 1 1, 3) := by decide +kernel
theorem dX7_net_253 : decode cX7_net 253 = .ok (.goto (-73), 3) := by decide +kernel
theorem dX7_net_256 : decode cX7_net 256 = .ok (.aload_n 0, 1) := by decide +kernel
theorem dX7_net_257 : decode cX7_net 257 = .ok (.getfield 28, 3) := by decide +kernel
theorem dX7_net_260 : decode cX7_net 260 = .ok (.bipush 16, 2) := by decide +kernel
theorem dX7_net_262 : decode cX7_net 262 = .ok (.iconst 1, 1) := by decide +kernel
theorem dX7_net_263 : decode cX7_net 263 = .ok (.aload_n 0, 1) := by decide +kernel
theorem dX7_net_264 : decode cX7_net 264 = .ok (.getfield 126, 3) := by decide +kernel
theorem dX7_net_267 : decode cX7_net 267 = .ok (.ishl, 1) := by decide +kernel
theorem dX7_net_268 : decode cX7_net 268 = .ok (.iconst 1, 1) := by decide +kernel
theorem dX7_net_269 : decode cX7_net 269 = .ok (.isub, 1) := by decide +kernel
theorem dX7_net_270 : decode cX7_net 270 = .ok (.iastore, 1) := by decide +kernel
theorem dX7_net_271 : decode cX7_net 271 = .ok (.aload_n 0, 1) := by decide +kernel
theorem dX7_net_272 : decode cX7_net 272 = .ok (.iconst 0, 1) := by decide +kernel
theorem dX7_net_273 : decode cX7_net 273 = .ok (.putfield 142, 3) := by decide +kernel
theorem dX7_net_276 : decode cX7_net 276 = .ok (.aload_n 0, 1) := by decide +kernel
theorem dX7_net_277 : decode cX7_net 277 = .ok (.getfield 61, 3) := by decide +kernel
theorem dX7_net_280 : decode cX7_net 280 = .ok (.iconst 0, 1) := by decide +kernel
theorem dX7_net_281 : decode cX7_net 281 = .ok (.iconst 0, 1) := by decide +kernel
theorem dX7_net_282 : decode cX7_net 282 = .ok (.bastore, 1) := by decide +kernel
theorem dX7_net_283 : decode cX7_net 283 = .ok (.aload_n 0, 1) := by decide +kernel
theorem dX7_net_284 : decode cX7_net 284 = .ok (.getfield 61, 3) := by decide +kernel
theorem dX7_net_287 : decode cX7_net 287 = .ok (.iconst 1, 1) := by decide +kernel
theorem dX7_net_288 : decode cX7_net 288 = .ok (.iconst 0, 1) := by decide +kernel
theorem dX7_net_289 : decode cX7_net 289 = .ok (.bastore, 1) := by decide +kernel
theorem dX7_net_290 : decode cX7_net 290 = .ok (.bipush 100, 2) := by decide +kernel
theorem dX7_net_292 : decode cX7_net 292 = .ok (.aload_n 0, 1) := by decide +kernel
theorem dX7_net_293 : decode cX7_net 293 = .ok (.getfield 123, 3) := by decide +kernel
theorem dX7_net_296 : decode cX7_net 296 = .ok (.imul, 1) := by decide +kernel
theorem dX7_net_297 : decode cX7_net 297 = .ok (.bipush 10, 2) := by decide +kernel
theorem dX7_net_299 : decode cX7_net 299 = .ok (.aload_n 0, 1) := by decide +kernel
theorem dX7_net_300 : decode cX7_net 300 = .ok (.getfield 126, 3) := by decide +kernel
theorem dX7_net_303 : decode cX7_net 303 = .ok (.imul, 1) := by decide +kernel
theorem dX7_net_304 : decode cX7_net 304 = .ok (.iadd, 1) := by decide +kernel
theorem dX7_net_305 : decode cX7_net 305 = .ok (.aload_n 0, 1) := by decide +kernel
theorem dX7_net_306 : decode cX7_net 306 = .ok (.getfield 129, 3) := by decide +kernel
theorem dX7_net_309 : decode cX7_net 309 = .ok (.iadd, 1) := by decide +kernel
theorem dX7_net_310 : decode cX7_net 310 = .ok (.ireturn, 1) := by decide +kernel
set_option maxRecDepth 20000 in
theorem ggX7_isJoint_X7_in : GoodIn wsX7_isJoint wsX7_in := goodIn_r _ [5] (by decide +kernel) (by decide +kernel)
set_option maxRecDepth 20000 in
theorem gX7_isJoint_X7_in : GoodIn wsX7_isJoint (va_wsS RX7 77 yX7_in wsX7_in) := goodIn_app (goodIn_of _ (by decide +kernel)) ggX7_isJoint_X7_in
theorem dX7_isJoint_0 : decode cX7_isJoint 0 = .ok (.iload_n 1, 1) := by decide +kernel
theorem dX7_isJoint_1 : decode cX7_isJoint 1 = .ok (.i2l, 1) := by decide +kernel
theorem dX7_isJoint_2 : decode cX7_isJoint 2 = .ok (.lconst 0, 1) := by decide +kernel
theorem dX7_isJoint_3 : decode cX7_isJoint 3 = .ok (.aload_n 0, 1) := by decide +kernel
theorem dX7_isJoint_4 : decode cX7_isJoint 4 = .ok (.getfield 123, 3) := by decide +kernel
theorem dX7_isJoint_7 : decode cX7_isJoint 7 = .ok (.iconst 1, 1) := by decide +kernel
theorem dX7_isJoint_8 : decode cX7_isJoint 8 = .ok (.isub, 1) := by decide +kernel
theorem dX7_isJoint_9 : decode cX7_isJoint 9 = .ok (.i2l, 1) := by decide +kernel
theorem dX7_isJoint_10 : decode cX7_isJoint 10 = .ok (.invokestatic 77, 3) := by decide +kernel
theorem dX7_isJoint_13 : decode cX7_isJoint 13 = .ok (.ireturn, 1) := by decide +kernel
set_option maxRecDepth 20000 in
theorem ggX7_isPipe_X7_in : GoodIn wsX7_isPipe wsX7_in := goodIn_r _ [5] (by decide +kernel) (by decide +kernel)
set_option maxRecDepth 20000 in
theorem gX7_isPipe_X7_in : GoodIn wsX7_isPipe (va_wsS RX7 77 yX7_in wsX7_in) := goodIn_app (goodIn_of _ (by decide +kernel)) ggX7_isPipe_X7_in
theorem dX7_isPipe_0 : decode cX7_isPipe 0 = .ok (.iload_n 1, 1) := by decide +kernel
theorem dX7_isPipe_1 : decode cX7_isPipe 1 = .ok (.i2l, 1) := by decide +kernel
theorem dX7_isPipe_2 : decode cX7_isPipe 2 = .ok (.lconst 0, 1) := by decide +kernel
theorem dX7_isPipe_3 : decode cX7_isPipe 3 = .ok (.aload_n 0, 1) := by decide +kernel
theorem dX7_isPipe_4 : decode cX7_isPipe 4 = .ok (.getfield 126, 3) := by decide +kernel
theorem dX7_isPipe_7 : decode cX7_isPipe 7 = .ok (.iconst 1, 1) := by decide +kernel
theorem dX7_isPipe_8 : decode cX7_isPipe 8 = .ok (.isub, 1) := by decide +kernel
theorem dX7_isPipe_9 : decode cX7_isPipe 9 = .ok (.i2l, 1) := by decide +kernel
theorem dX7_isPipe_10 : decode cX7_isPipe 10 = .ok (.invokestatic 77, 3) := by decide +kernel
theorem dX7_isPipe_13 : decode cX7_isPipe 13 = .ok (.ireturn, 1) := by decide +kernel
set_option maxRecDepth 20000 in
theorem ggX7_isWalker_X7_in : GoodIn wsX7_isWalker wsX7_in := goodIn_r _ [5] (by decide +kernel) (by decide +kernel)
set_option maxRecDepth 20000 in
theorem gX7_isWalker_X7_in : GoodIn wsX7_isWalker (va_wsS RX7 77 yX7_in wsX7_in) := goodIn_app (goodIn_of _ (by decide +kernel)) ggX7_isWalker_X7_in
theorem dX7_isWalker_0 : decode cX7_isWalker 0 = .ok (.iload_n 1, 1) := by decide +kernel
theorem dX7_isWalker_1 : decode cX7_isWalker 1 = .ok (.i2l, 1) := by decide +kernel
theorem dX7_isWalker_2 : decode cX7_isWalker 2 = .ok (.lconst 0, 1) := by decide +kernel
theorem dX7_isWalker_3 : decode cX7_isWalker 3 = .ok (.aload_n 0, 1) := by decide +kernel
theorem dX7_isWalker_4 : decode cX7_isWalker 4 = .ok (.getfield 129, 3) := by decide +kernel
theorem dX7_isWalker_7 : decode cX7_isWalker 7 = .ok (.iconst 1, 1) := by decide +kernel
theorem dX7_isWalker_8 : decode cX7_isWalker 8 = .ok (.isub, 1) := by decide +kernel
theorem dX7_isWalker_9 : decode cX7_isWalker 9 = .ok (.i2l, 1) := by decide +kernel
theorem dX7_isWalker_10 : decode cX7_isWalker 10 = .ok (.invokestatic 77, 3) := by decide +kernel
theorem dX7_isWalker_13 : decode cX7_isWalker 13 = .ok (.ireturn, 1) := by decide +kernel
theorem dX7_tideOn_0 : decode cX7_tideOn 0 = .ok (.aload_n 0, 1) := by decide +kernel
theorem dX7_tideOn_1 : decode cX7_tideOn 1 = .ok (.getfield 28, 3) := by decide +kernel
theorem dX7_tideOn_4 : decode cX7_tideOn 4 = .ok (.bipush 19, 2) := by decide +kernel
theorem dX7_tideOn_6 : decode cX7_tideOn 6 = .ok (.iload_n 1, 1) := by decide +kernel
theorem dX7_tideOn_7 : decode cX7_tideOn 7 = .ok (.imul, 1) := by decide +kernel
theorem dX7_tideOn_8 : decode cX7_tideOn 8 = .ok (.bipush 18, 2) := by decide +kernel
theorem dX7_tideOn_10 : decode cX7_tideOn 10 = .ok (.iadd, 1) := by decide +kernel
theorem dX7_tideOn_11 : decode cX7_tideOn 11 = .ok (.iaload, 1) := by decide +kernel
theorem dX7_tideOn_12 : decode cX7_tideOn 12 = .ok (.iconst 4, 1) := by decide +kernel
theorem dX7_tideOn_13 : decode cX7_tideOn 13 = .ok (.irem, 1) := by decide +kernel
theorem dX7_tideOn_14 : decode cX7_tideOn 14 = .ok (.iconst 2, 1) := by decide +kernel
theorem dX7_tideOn_15 : decode cX7_tideOn 15 = .ok (.if_icmp .ge 10, 3) := by decide +kernel
theorem dX7_tideOn_18 : decode cX7_tideOn 18 = .ok (.aload_n 0, 1) := by decide +kernel
theorem dX7_tideOn_19 : decode cX7_tideOn 19 = .ok (.getfield 132, 3) := by decide +kernel
theorem dX7_tideOn_22 : decode cX7_tideOn 22 = .ok (.goto 7, 3) := by decide +kernel
theorem dX7_tideOn_25 : decode cX7_tideOn 25 = .ok (.aload_n 0, 1) := by decide +kernel
theorem dX7_tideOn_26 : decode cX7_tideOn 26 = .ok (.getfield 135, 3) := by decide +kernel
theorem dX7_tideOn_29 : decode cX7_tideOn 29 = .ok (.ireturn, 1) := by decide +kernel
set_option maxRecDepth 20000 in
theorem ggX7_joinedOn_X7_has : GoodIn wsX7_joinedOn wsX7_has := goodIn_r _ [7] (by decide +kernel) (by decide +kernel)
set_option maxRecDepth 20000 in
theorem gX7_joinedOn_X7_has : GoodIn wsX7_joinedOn (va_wsS RX7 92 yX7_has wsX7_has) := goodIn_app (goodIn_of _ (by decide +kernel)) ggX7_joinedOn_X7_has
theorem dX7_joinedOn_0 : decode cX7_joinedOn 0 = .ok (.iconst 0, 1) := by decide +kernel
theorem dX7_joinedOn_1 : decode cX7_joinedOn 1 = .ok (.istore_n 3, 1) := by decide +kernel
theorem dX7_joinedOn_2 : decode cX7_joinedOn 2 = .ok (.iconst 0, 1) := by decide +kernel
theorem dX7_joinedOn_3 : decode cX7_joinedOn 3 = .ok (.istore 4, 2) := by decide +kernel
theorem dX7_joinedOn_5 : decode cX7_joinedOn 5 = .ok (.iload 4, 2) := by decide +kernel
theorem dX7_joinedOn_7 : decode cX7_joinedOn 7 = .ok (.aload_n 0, 1) := by decide +kernel
theorem dX7_joinedOn_8 : decode cX7_joinedOn 8 = .ok (.getfield 126, 3) := by decide +kernel
theorem dX7_joinedOn_11 : decode cX7_joinedOn 11 = .ok (.if_icmp .ge 91, 3) := by decide +kernel
theorem dX7_joinedOn_14 : decode cX7_joinedOn 14 = .ok (.aload_n 0, 1) := by decide +kernel
theorem dX7_joinedOn_15 : decode cX7_joinedOn 15 = .ok (.getfield 28, 3) := by decide +kernel
theorem dX7_joinedOn_18 : decode cX7_joinedOn 18 = .ok (.bipush 19, 2) := by decide +kernel
theorem dX7_joinedOn_20 : decode cX7_joinedOn 20 = .ok (.iload_n 1, 1) := by decide +kernel
theorem dX7_joinedOn_21 : decode cX7_joinedOn 21 = .ok (.imul, 1) := by decide +kernel
theorem dX7_joinedOn_22 : decode cX7_joinedOn 22 = .ok (.bipush 16, 2) := by decide +kernel
theorem dX7_joinedOn_24 : decode cX7_joinedOn 24 = .ok (.iadd, 1) := by decide +kernel
theorem dX7_joinedOn_25 : decode cX7_joinedOn 25 = .ok (.iaload, 1) := by decide +kernel
theorem dX7_joinedOn_26 : decode cX7_joinedOn 26 = .ok (.iload 4, 2) := by decide +kernel
theorem dX7_joinedOn_28 : decode cX7_joinedOn 28 = .ok (.invokestatic 92, 3) := by decide +kernel
theorem dX7_joinedOn_31 : decode cX7_joinedOn 31 = .ok (.ifCond .eq 65, 3) := by decide +kernel
theorem dX7_joinedOn_34 : decode cX7_joinedOn 34 = .ok (.iload_n 3, 1) := by decide +kernel
theorem dX7_joinedOn_35 : decode cX7_joinedOn 35 = .ok (.aload_n 0, 1) := by decide +kernel
theorem dX7_joinedOn_36 : decode cX7_joinedOn 36 = .ok (.getfield 16, 3) := by decide +kernel
theorem dX7_joinedOn_39 : decode cX7_joinedOn 39 = .ok (.iconst 2, 1) := by decide +kernel
theorem dX7_joinedOn_40 : decode cX7_joinedOn 40 = .ok (.iload 4, 2) := by decide +kernel
theorem dX7_joinedOn_42 : decode cX7_joinedOn 42 = .ok (.imul, 1) := by decide +kernel
theorem dX7_joinedOn_43 : decode cX7_joinedOn 43 = .ok (.iaload, 1) := by decide +kernel
theorem dX7_joinedOn_44 : decode cX7_joinedOn 44 = .ok (.iload_n 2, 1) := by decide +kernel
theorem dX7_joinedOn_45 : decode cX7_joinedOn 45 = .ok (.if_icmp .ne 19, 3) := by decide +kernel
theorem dX7_joinedOn_48 : decode cX7_joinedOn 48 = .ok (.iconst 1, 1) := by decide +kernel
theorem dX7_joinedOn_49 : decode cX7_joinedOn 49 = .ok (.aload_n 0, 1) := by decide +kernel
theorem dX7_joinedOn_50 : decode cX7_joinedOn 50 = .ok (.getfield 16, 3) := by decide +kernel
theorem dX7_joinedOn_53 : decode cX7_joinedOn 53 = .ok (.iconst 2, 1) := by decide +kernel
theorem dX7_joinedOn_54 : decode cX7_joinedOn 54 = .ok (.iload 4, 2) := by decide +kernel
theorem dX7_joinedOn_56 : decode cX7_joinedOn 56 = .ok (.imul, 1) := by decide +kernel
theorem dX7_joinedOn_57 : decode cX7_joinedOn 57 = .ok (.iconst 1, 1) := by decide +kernel
theorem dX7_joinedOn_58 : decode cX7_joinedOn 58 = .ok (.iadd, 1) := by decide +kernel
theorem dX7_joinedOn_59 : decode cX7_joinedOn 59 = .ok (.iaload, 1) := by decide +kernel
theorem dX7_joinedOn_60 : decode cX7_joinedOn 60 = .ok (.ishl, 1) := by decide +kernel
theorem dX7_joinedOn_61 : decode cX7_joinedOn 61 = .ok (.goto 33, 3) := by decide +kernel
theorem dX7_joinedOn_64 : decode cX7_joinedOn 64 = .ok (.aload_n 0, 1) := by decide +kernel
theorem dX7_joinedOn_65 : decode cX7_joinedOn 65 = .ok (.getfield 16, 3) := by decide +kernel
theorem dX7_joinedOn_68 : decode cX7_joinedOn 68 = .ok (.iconst 2, 1) := by decide +kernel
theorem dX7_joinedOn_69 : decode cX7_joinedOn 69 = .ok (.iload 4, 2) := by decide +kernel
theorem dX7_joinedOn_71 : decode cX7_joinedOn 71 = .ok (.imul, 1) := by decide +kernel
theorem dX7_joinedOn_72 : decode cX7_joinedOn 72 = .ok (.iconst 1, 1) := by decide +kernel
theorem dX7_joinedOn_73 : decode cX7_joinedOn 73 = .ok (.iadd, 1) := by decide +kernel
theorem dX7_joinedOn_74 : decode cX7_joinedOn 74 = .ok (.iaload, 1) := by decide +kernel
theorem dX7_joinedOn_75 : decode cX7_joinedOn 75 = .ok (.iload_n 2, 1) := by decide +kernel
theorem dX7_joinedOn_76 : decode cX7_joinedOn 76 = .ok (.if_icmp .ne 17, 3) := by decide +kernel
theorem dX7_joinedOn_79 : decode cX7_joinedOn 79 = .ok (.iconst 1, 1) := by decide +kernel
theorem dX7_joinedOn_80 : decode cX7_joinedOn 80 = .ok (.aload_n 0, 1) := by decide +kernel
theorem dX7_joinedOn_81 : decode cX7_joinedOn 81 = .ok (.getfield 16, 3) := by decide +kernel
theorem dX7_joinedOn_84 : decode cX7_joinedOn 84 = .ok (.iconst 2, 1) := by decide +kernel
theorem dX7_joinedOn_85 : decode cX7_joinedOn 85 = .ok (.iload 4, 2) := by decide +kernel
theorem dX7_joinedOn_87 : decode cX7_joinedOn 87 = .ok (.imul, 1) := by decide +kernel
theorem dX7_joinedOn_88 : decode cX7_joinedOn 88 = .ok (.iaload, 1) := by decide +kernel
theorem dX7_joinedOn_89 : decode cX7_joinedOn 89 = .ok (.ishl, 1) := by decide +kernel
theorem dX7_joinedOn_90 : decode cX7_joinedOn 90 = .ok (.goto 4, 3) := by decide +kernel
theorem dX7_joinedOn_93 : decode cX7_joinedOn 93 = .ok (.iconst 0, 1) := by decide +kernel
theorem dX7_joinedOn_94 : decode cX7_joinedOn 94 = .ok (.ior, 1) := by decide +kernel
theorem dX7_joinedOn_95 : decode cX7_joinedOn 95 = .ok (.istore_n 3, 1) := by decide +kernel
theorem dX7_joinedOn_96 : decode cX7_joinedOn 96 = .ok (.iinc 4 1, 3) := by decide +kernel
theorem dX7_joinedOn_99 : decode cX7_joinedOn 99 = .ok (.goto (-94), 3) := by decide +kernel
theorem dX7_joinedOn_102 : decode cX7_joinedOn 102 = .ok (.iload_n 3, 1) := by decide +kernel
theorem dX7_joinedOn_103 : decode cX7_joinedOn 103 = .ok (.ireturn, 1) := by decide +kernel
theorem dX7_rankOf_0 : decode cX7_rankOf 0 = .ok (.iload_n 1, 1) := by decide +kernel
theorem dX7_rankOf_1 : decode cX7_rankOf 1 = .ok (.iconst 2, 1) := by decide +kernel
theorem dX7_rankOf_2 : decode cX7_rankOf 2 = .ok (.if_icmp .ge 25, 3) := by decide +kernel
theorem dX7_rankOf_5 : decode cX7_rankOf 5 = .ok (.iload_n 1, 1) := by decide +kernel
theorem dX7_rankOf_6 : decode cX7_rankOf 6 = .ok (.iconst 1, 1) := by decide +kernel
theorem dX7_rankOf_7 : decode cX7_rankOf 7 = .ok (.if_icmp .ne 12, 3) := by decide +kernel
theorem dX7_rankOf_10 : decode cX7_rankOf 10 = .ok (.aload_n 0, 1) := by decide +kernel
theorem dX7_rankOf_11 : decode cX7_rankOf 11 = .ok (.getfield 7, 3) := by decide +kernel
theorem dX7_rankOf_14 : decode cX7_rankOf 14 = .ok (.iload_n 3, 1) := by decide +kernel
theorem dX7_rankOf_15 : decode cX7_rankOf 15 = .ok (.iaload, 1) := by decide +kernel
theorem dX7_rankOf_16 : decode cX7_rankOf 16 = .ok (.goto 10, 3) := by decide +kernel
theorem dX7_rankOf_19 : decode cX7_rankOf 19 = .ok (.aload_n 0, 1) := by decide +kernel
theorem dX7_rankOf_20 : decode cX7_rankOf 20 = .ok (.getfield 7, 3) := by decide +kernel
theorem dX7_rankOf_23 : decode cX7_rankOf 23 = .ok (.iload_n 3, 1) := by decide +kernel
theorem dX7_rankOf_24 : decode cX7_rankOf 24 = .ok (.iaload, 1) := by decide +kernel
theorem dX7_rankOf_25 : decode cX7_rankOf 25 = .ok (.ineg, 1) := by decide +kernel
theorem dX7_rankOf_26 : decode cX7_rankOf 26 = .ok (.ireturn, 1) := by decide +kernel
theorem dX7_rankOf_27 : decode cX7_rankOf 27 = .ok (.iload_n 1, 1) := by decide +kernel
theorem dX7_rankOf_28 : decode cX7_rankOf 28 = .ok (.iconst 2, 1) := by decide +kernel
theorem dX7_rankOf_29 : decode cX7_rankOf 29 = .ok (.if_icmp .ne 9, 3) := by decide +kernel
theorem dX7_rankOf_32 : decode cX7_rankOf 32 = .ok (.iload_n 3, 1) := by decide +kernel
theorem dX7_rankOf_33 : decode cX7_rankOf 33 = .ok (.iload_n 2, 1) := by decide +kernel
theorem dX7_rankOf_34 : decode cX7_rankOf 34 = .ok (.isub, 1) := by decide +kernel
theorem dX7_rankOf_35 : decode cX7_rankOf 35 = .ok (.goto 6, 3) := by decide +kernel
theorem dX7_rankOf_38 : decode cX7_rankOf 38 = .ok (.iload_n 2, 1) := by decide +kernel
theorem dX7_rankOf_39 : decode cX7_rankOf 39 = .ok (.iload_n 3, 1) := by decide +kernel
theorem dX7_rankOf_40 : decode cX7_rankOf 40 = .ok (.isub, 1) := by decide +kernel
theorem dX7_rankOf_41 : decode cX7_rankOf 41 = .ok (.istore 4, 2) := by decide +kernel
theorem dX7_rankOf_43 : decode cX7_rankOf 43 = .ok (.iload 4, 2) := by decide +kernel
theorem dX7_rankOf_45 : decode cX7_rankOf 45 = .ok (.ifCond .le 8, 3) := by decide +kernel
theorem dX7_rankOf_48 : decode cX7_rankOf 48 = .ok (.iload 4, 2) := by decide +kernel
theorem dX7_rankOf_50 : decode cX7_rankOf 50 = .ok (.goto 10, 3) := by decide +kernel
theorem dX7_rankOf_53 : decode cX7_rankOf 53 = .ok (.iload 4, 2) := by decide +kernel
theorem dX7_rankOf_55 : decode cX7_rankOf 55 = .ok (.aload_n 0, 1) := by decide +kernel
theorem dX7_rankOf_56 : decode cX7_rankOf 56 = .ok (.getfield 123, 3) := by decide +kernel
theorem dX7_rankOf_59 : decode cX7_rankOf 59 = .ok (.iadd, 1) := by decide +kernel
theorem dX7_rankOf_60 : decode cX7_rankOf 60 = .ok (.ireturn, 1) := by decide +kernel
set_option maxRecDepth 20000 in
theorem ggX7_nextOn_X7_joinedOn : GoodIn wsX7_nextOn wsX7_joinedOn := goodIn_r _ [11, 12, 1, 13, 14, 15, 10, 16, 21, 22, 23, 24, 25, 26, 27, 28, 29, 30, 31, 32, 33, 34, 35, 36, 37, 38, 39, 40, 41, 42, 43, 44, 45, 46, 47, 48, 49, 50, 51, 52, 53, 54, 55, 56, 57] (by decide +kernel) (by decide +kernel)
set_option maxRecDepth 20000 in
theorem gX7_nextOn_X7_joinedOn : GoodIn wsX7_nextOn (wsV RX7 148 RX7 yX7_joinedOn wsX7_joinedOn) := goodIn_app (goodIn_of _ (by decide +kernel)) ggX7_nextOn_X7_joinedOn
set_option maxRecDepth 20000 in
theorem ggX7_nextOn_X7_has : GoodIn wsX7_nextOn wsX7_has := goodIn_r _ [16] (by decide +kernel) (by decide +kernel)
set_option maxRecDepth 20000 in
theorem gX7_nextOn_X7_has : GoodIn wsX7_nextOn (va_wsS RX7 92 yX7_has wsX7_has) := goodIn_app (goodIn_of _ (by decide +kernel)) ggX7_nextOn_X7_has
set_option maxRecDepth 20000 in
theorem ggX7_nextOn_X7_rankOf : GoodIn wsX7_nextOn wsX7_rankOf := goodIn_r _ [20, 6, 5, 21, 22, 23, 24, 25, 26, 27, 28, 29, 30, 31, 32, 33, 34, 35, 36, 37, 38, 39, 40, 41, 42, 43, 44, 45, 46, 47, 48, 49, 50, 51, 52, 53, 54, 55, 56, 57] (by decide +kernel) (by decide +kernel)
set_option maxRecDepth 20000 in
theorem gX7_nextOn_X7_rankOf : GoodIn wsX7_nextOn (wsV RX7 152 RX7 yX7_rankOf wsX7_rankOf) := goodIn_app (goodIn_of _ (by decide +kernel)) ggX7_nextOn_X7_rankOf
theorem dX7_nextOn_0 : decode cX7_nextOn 0 = .ok (.bipush 19, 2) := by decide +kernel
theorem dX7_nextOn_2 : decode cX7_nextOn 2 = .ok (.iload_n 1, 1) := by decide +kernel
theorem dX7_nextOn_3 : decode cX7_nextOn 3 = .ok (.imul, 1) := by decide +kernel
theorem dX7_nextOn_4 : decode cX7_nextOn 4 = .ok (.istore 4, 2) := by decide +kernel
theorem dX7_nextOn_6 : decode cX7_nextOn 6 = .ok (.aload_n 0, 1) := by decide +kernel
theorem dX7_nextOn_7 : decode cX7_nextOn 7 = .ok (.getfield 28, 3) := by decide +kernel
theorem dX7_nextOn_10 : decode cX7_nextOn 10 = .ok (.iload 4, 2) := by decide +kernel
theorem dX7_nextOn_12 : decode cX7_nextOn 12 = .ok (.iload_n 2, 1) := by decide +kernel
theorem dX7_nextOn_13 : decode cX7_nextOn 13 = .ok (.iadd, 1) := by decide +kernel
theorem dX7_nextOn_14 : decode cX7_nextOn 14 = .ok (.iaload, 1) := by decide +kernel
theorem dX7_nextOn_15 : decode cX7_nextOn 15 = .ok (.istore 5, 2) := by decide +kernel
theorem dX7_nextOn_17 : decode cX7_nextOn 17 = .ok (.iload_n 2, 1) := by decide +kernel
theorem dX7_nextOn_18 : decode cX7_nextOn 18 = .ok (.aload_n 0, 1) := by decide +kernel
theorem dX7_nextOn_19 : decode cX7_nextOn 19 = .ok (.getfield 72, 3) := by decide +kernel
theorem dX7_nextOn_22 : decode cX7_nextOn 22 = .ok (.if_icmp .ne 10, 3) := by decide +kernel
theorem dX7_nextOn_25 : decode cX7_nextOn 25 = .ok (.aload_n 0, 1) := by decide +kernel
theorem dX7_nextOn_26 : decode cX7_nextOn 26 = .ok (.getfield 145, 3) := by decide +kernel
theorem dX7_nextOn_29 : decode cX7_nextOn 29 = .ok (.goto 9, 3) := by decide +kernel
theorem dX7_nextOn_32 : decode cX7_nextOn 32 = .ok (.aload_n 0, 1) := by decide +kernel
theorem dX7_nextOn_33 : decode cX7_nextOn 33 = .ok (.getfield 19, 3) := by decide +kernel
theorem dX7_nextOn_36 : decode cX7_nextOn 36 = .ok (.iload_n 2, 1) := by decide +kernel
theorem dX7_nextOn_37 : decode cX7_nextOn 37 = .ok (.iaload, 1) := by decide +kernel
theorem dX7_nextOn_38 : decode cX7_nextOn 38 = .ok (.istore 6, 2) := by decide +kernel
theorem dX7_nextOn_40 : decode cX7_nextOn 40 = .ok (.aload_n 0, 1) := by decide +kernel
theorem dX7_nextOn_41 : decode cX7_nextOn 41 = .ok (.iload_n 1, 1) := by decide +kernel
theorem dX7_nextOn_42 : decode cX7_nextOn 42 = .ok (.iload 5, 2) := by decide +kernel
theorem dX7_nextOn_44 : decode cX7_nextOn 44 = .ok (.invokevirtual 148, 3) := by decide +kernel
theorem dX7_nextOn_47 : decode cX7_nextOn 47 = .ok (.istore 7, 2) := by decide +kernel
theorem dX7_nextOn_49 : decode cX7_nextOn 49 = .ok (.iconst 0, 1) := by decide +kernel
theorem dX7_nextOn_50 : decode cX7_nextOn 50 = .ok (.istore 8, 2) := by decide +kernel
theorem dX7_nextOn_52 : decode cX7_nextOn 52 = .ok (.iload 8, 2) := by decide +kernel
theorem dX7_nextOn_54 : decode cX7_nextOn 54 = .ok (.aload_n 0, 1) := by decide +kernel
theorem dX7_nextOn_55 : decode cX7_nextOn 55 = .ok (.getfield 123, 3) := by decide +kernel
theorem dX7_nextOn_58 : decode cX7_nextOn 58 = .ok (.if_icmp .ge 35, 3) := by decide +kernel
theorem dX7_nextOn_61 : decode cX7_nextOn 61 = .ok (.iload 7, 2) := by decide +kernel
theorem dX7_nextOn_63 : decode cX7_nextOn 63 = .ok (.aload_n 0, 1) := by decide +kernel
theorem dX7_nextOn_64 : decode cX7_nextOn 64 = .ok (.getfield 7, 3) := by decide +kernel
theorem dX7_nextOn_67 : decode cX7_nextOn 67 = .ok (.iload 8, 2) := by decide +kernel
theorem dX7_nextOn_69 : decode cX7_nextOn 69 = .ok (.iaload, 1) := by decide +kernel
theorem dX7_nextOn_70 : decode cX7_nextOn 70 = .ok (.iload_n 3, 1) := by decide +kernel
theorem dX7_nextOn_71 : decode cX7_nextOn 71 = .ok (.if_icmp .ge 12, 3) := by decide +kernel
theorem dX7_nextOn_74 : decode cX7_nextOn 74 = .ok (.iconst 1, 1) := by decide +kernel
theorem dX7_nextOn_75 : decode cX7_nextOn 75 = .ok (.iload 8, 2) := by decide +kernel
theorem dX7_nextOn_77 : decode cX7_nextOn 77 = .ok (.ishl, 1) := by decide +kernel
theorem dX7_nextOn_78 : decode cX7_nextOn 78 = .ok (.iconst (-1), 1) := by decide +kernel
theorem dX7_nextOn_79 : decode cX7_nextOn 79 = .ok (.ixor, 1) := by decide +kernel
theorem dX7_nextOn_80 : decode cX7_nextOn 80 = .ok (.goto 4, 3) := by decide +kernel
theorem dX7_nextOn_83 : decode cX7_nextOn 83 = .ok (.iconst (-1), 1) := by decide +kernel
theorem dX7_nextOn_84 : decode cX7_nextOn 84 = .ok (.iand, 1) := by decide +kernel
theorem dX7_nextOn_85 : decode cX7_nextOn 85 = .ok (.istore 7, 2) := by decide +kernel
theorem dX7_nextOn_87 : decode cX7_nextOn 87 = .ok (.iinc 8 1, 3) := by decide +kernel
theorem dX7_nextOn_90 : decode cX7_nextOn 90 = .ok (.goto (-38), 3) := by decide +kernel
theorem dX7_nextOn_93 : decode cX7_nextOn 93 = .ok (.aload_n 0, 1) := by decide +kernel
theorem dX7_nextOn_94 : decode cX7_nextOn 94 = .ok (.getfield 28, 3) := by decide +kernel
theorem dX7_nextOn_97 : decode cX7_nextOn 97 = .ok (.iload 4, 2) := by decide +kernel
theorem dX7_nextOn_99 : decode cX7_nextOn 99 = .ok (.iconst 4, 1) := by decide +kernel
theorem dX7_nextOn_100 : decode cX7_nextOn 100 = .ok (.iadd, 1) := by decide +kernel
theorem dX7_nextOn_101 : decode cX7_nextOn 101 = .ok (.iload_n 2, 1) := by decide +kernel
theorem dX7_nextOn_102 : decode cX7_nextOn 102 = .ok (.iadd, 1) := by decide +kernel
theorem dX7_nextOn_103 : decode cX7_nextOn 103 = .ok (.iaload, 1) := by decide +kernel
theorem dX7_nextOn_104 : decode cX7_nextOn 104 = .ok (.istore 8, 2) := by decide +kernel
theorem dX7_nextOn_106 : decode cX7_nextOn 106 = .ok (.iload 8, 2) := by decide +kernel
theorem dX7_nextOn_108 : decode cX7_nextOn 108 = .ok (.bipush (-9), 2) := by decide +kernel
theorem dX7_nextOn_110 : decode cX7_nextOn 110 = .ok (.if_icmp .ne 8, 3) := by decide +kernel
theorem dX7_nextOn_113 : decode cX7_nextOn 113 = .ok (.iload 7, 2) := by decide +kernel
theorem dX7_nextOn_115 : decode cX7_nextOn 115 = .ok (.goto 12, 3) := by decide +kernel
theorem dX7_nextOn_118 : decode cX7_nextOn 118 = .ok (.iload 7, 2) := by decide +kernel
theorem dX7_nextOn_120 : decode cX7_nextOn 120 = .ok (.iconst 1, 1) := by decide +kernel
theorem dX7_nextOn_121 : decode cX7_nextOn 121 = .ok (.iload 8, 2) := by decide +kernel
theorem dX7_nextOn_123 : decode cX7_nextOn 123 = .ok (.ishl, 1) := by decide +kernel
theorem dX7_nextOn_124 : decode cX7_nextOn 124 = .ok (.iconst (-1), 1) := by decide +kernel
theorem dX7_nextOn_125 : decode cX7_nextOn 125 = .ok (.ixor, 1) := by decide +kernel
theorem dX7_nextOn_126 : decode cX7_nextOn 126 = .ok (.iand, 1) := by decide +kernel
theorem dX7_nextOn_127 : decode cX7_nextOn 127 = .ok (.istore 9, 2) := by decide +kernel
theorem dX7_nextOn_129 : decode cX7_nextOn 129 = .ok (.iload 9, 2) := by decide +kernel
theorem dX7_nextOn_131 : decode cX7_nextOn 131 = .ok (.ifCond .eq 8, 3) := by decide +kernel
theorem dX7_nextOn_134 : decode cX7_nextOn 134 = .ok (.iload 9, 2) := by decide +kernel
theorem dX7_nextOn_136 : decode cX7_nextOn 136 = .ok (.goto 5, 3) := by decide +kernel
theorem dX7_nextOn_139 : decode cX7_nextOn 139 = .ok (.iload 7, 2) := by decide +kernel
theorem dX7_nextOn_141 : decode cX7_nextOn 141 = .ok (.istore 7, 2) := by decide +kernel
theorem dX7_nextOn_143 : decode cX7_nextOn 143 = .ok (.bipush (-9), 2) := by decide +kernel
theorem dX7_nextOn_145 : decode cX7_nextOn 145 = .ok (.istore 10, 2) := by decide +kernel
theorem dX7_nextOn_147 : decode cX7_nextOn 147 = .ok (.iconst 0, 1) := by decide +kernel
theorem dX7_nextOn_148 : decode cX7_nextOn 148 = .ok (.istore 11, 2) := by decide +kernel
theorem dX7_nextOn_150 : decode cX7_nextOn 150 = .ok (.iload 11, 2) := by decide +kernel
theorem dX7_nextOn_152 : decode cX7_nextOn 152 = .ok (.aload_n 0, 1) := by decide +kernel
theorem dX7_nextOn_153 : decode cX7_nextOn 153 = .ok (.getfield 123, 3) := by decide +kernel
theorem dX7_nextOn_156 : decode cX7_nextOn 156 = .ok (.if_icmp .ge 70, 3) := by decide +kernel
theorem dX7_nextOn_159 : decode cX7_nextOn 159 = .ok (.iload 7, 2) := by decide +kernel
theorem dX7_nextOn_161 : decode cX7_nextOn 161 = .ok (.iload 11, 2) := by decide +kernel
theorem dX7_nextOn_163 : decode cX7_nextOn 163 = .ok (.invokestatic 92, 3) := by decide +kernel
theorem dX7_nextOn_166 : decode cX7_nextOn 166 = .ok (.ifCond .eq 37, 3) := by decide +kernel
theorem dX7_nextOn_169 : decode cX7_nextOn 169 = .ok (.iload 10, 2) := by decide +kernel
theorem dX7_nextOn_171 : decode cX7_nextOn 171 = .ok (.bipush (-9), 2) := by decide +kernel
theorem dX7_nextOn_173 : decode cX7_nextOn 173 = .ok (.if_icmp .eq 26, 3) := by decide +kernel
theorem dX7_nextOn_176 : decode cX7_nextOn 176 = .ok (.aload_n 0, 1) := by decide +kernel
theorem dX7_nextOn_177 : decode cX7_nextOn 177 = .ok (.iload 6, 2) := by decide +kernel
theorem dX7_nextOn_179 : decode cX7_nextOn 179 = .ok (.iload 5, 2) := by decide +kernel
theorem dX7_nextOn_181 : decode cX7_nextOn 181 = .ok (.iload 11, 2) := by decide +kernel
theorem dX7_nextOn_183 : decode cX7_nextOn 183 = .ok (.invokevirtual 152, 3) := by decide +kernel
theorem dX7_nextOn_186 : decode cX7_nextOn 186 = .ok (.aload_n 0, 1) := by decide +kernel
theorem dX7_nextOn_187 : decode cX7_nextOn 187 = .ok (.iload 6, 2) := by decide +kernel
theorem dX7_nextOn_189 : decode cX7_nextOn 189 = .ok (.iload 5, 2) := by decide +kernel
theorem dX7_nextOn_191 : decode cX7_nextOn 191 = .ok (.iload 10, 2) := by decide +kernel
theorem dX7_nextOn_193 : decode cX7_nextOn 193 = .ok (.invokevirtual 152, 3) := by decide +kernel
theorem dX7_nextOn_196 : decode cX7_nextOn 196 = .ok (.if_icmp .ge 7, 3) := by decide +kernel
theorem dX7_nextOn_199 : decode cX7_nextOn 199 = .ok (.iconst 1, 1) := by decide +kernel
theorem dX7_nextOn_200 : decode cX7_nextOn 200 = .ok (.goto 4, 3) := by decide +kernel
theorem dX7_nextOn_203 : decode cX7_nextOn 203 = .ok (.iconst 0, 1) := by decide +kernel
theorem dX7_nextOn_204 : decode cX7_nextOn 204 = .ok (.istore 12, 2) := by decide +kernel
theorem dX7_nextOn_206 : decode cX7_nextOn 206 = .ok (.iload 12, 2) := by decide +kernel
theorem dX7_nextOn_208 : decode cX7_nextOn 208 = .ok (.ifCond .eq 8, 3) := by decide +kernel
theorem dX7_nextOn_211 : decode cX7_nextOn 211 = .ok (.iload 11, 2) := by decide +kernel
theorem dX7_nextOn_213 : decode cX7_nextOn 213 = .ok (.goto 5, 3) := by decide +kernel
theorem dX7_nextOn_216 : decode cX7_nextOn 216 = .ok (.iload 10, 2) := by decide +kernel
theorem dX7_nextOn_218 : decode cX7_nextOn 218 = .ok (.istore 10, 2) := by decide +kernel
theorem dX7_nextOn_220 : decode cX7_nextOn 220 = .ok (.iinc 11 1, 3) := by decide +kernel
theorem dX7_nextOn_223 : decode cX7_nextOn 223 = .ok (.goto (-73), 3) := by decide +kernel
theorem dX7_nextOn_226 : decode cX7_nextOn 226 = .ok (.iload 10, 2) := by decide +kernel
theorem dX7_nextOn_228 : decode cX7_nextOn 228 = .ok (.ireturn, 1) := by decide +kernel
theorem dX7_isOut_0 : decode cX7_isOut 0 = .ok (.aload_n 0, 1) := by decide +kernel
theorem dX7_isOut_1 : decode cX7_isOut 1 = .ok (.getfield 28, 3) := by decide +kernel
theorem dX7_isOut_4 : decode cX7_isOut 4 = .ok (.bipush 19, 2) := by decide +kernel
theorem dX7_isOut_6 : decode cX7_isOut 6 = .ok (.iload_n 1, 1) := by decide +kernel
theorem dX7_isOut_7 : decode cX7_isOut 7 = .ok (.imul, 1) := by decide +kernel
theorem dX7_isOut_8 : decode cX7_isOut 8 = .ok (.bipush 12, 2) := by decide +kernel
theorem dX7_isOut_10 : decode cX7_isOut 10 = .ok (.iadd, 1) := by decide +kernel
theorem dX7_isOut_11 : decode cX7_isOut 11 = .ok (.iload_n 2, 1) := by decide +kernel
theorem dX7_isOut_12 : decode cX7_isOut 12 = .ok (.iadd, 1) := by decide +kernel
theorem dX7_isOut_13 : decode cX7_isOut 13 = .ok (.iaload, 1) := by decide +kernel
theorem dX7_isOut_14 : decode cX7_isOut 14 = .ok (.iconst 1, 1) := by decide +kernel
theorem dX7_isOut_15 : decode cX7_isOut 15 = .ok (.if_icmp .ne 7, 3) := by decide +kernel
theorem dX7_isOut_18 : decode cX7_isOut 18 = .ok (.iconst 1, 1) := by decide +kernel
theorem dX7_isOut_19 : decode cX7_isOut 19 = .ok (.goto 4, 3) := by decide +kernel
theorem dX7_isOut_22 : decode cX7_isOut 22 = .ok (.iconst 0, 1) := by decide +kernel
theorem dX7_isOut_23 : decode cX7_isOut 23 = .ok (.ireturn, 1) := by decide +kernel
set_option maxRecDepth 20000 in
theorem ggX7_stepBy_X7_isOut : GoodIn wsX7_stepBy wsX7_isOut := goodIn_r _ [10, 3, 33, 34, 35, 36, 37, 38, 39, 40, 41, 42, 43, 44, 45, 46, 47, 48, 49, 50, 51, 52, 53, 54, 55, 56, 57, 58, 59, 60, 61, 62, 63, 64, 65, 66, 67, 68, 69] (by decide +kernel) (by decide +kernel)
set_option maxRecDepth 20000 in
theorem gX7_stepBy_X7_isOut : GoodIn wsX7_stepBy (wsV RX7 156 RX7 yX7_isOut wsX7_isOut) := goodIn_app (goodIn_of _ (by decide +kernel)) ggX7_stepBy_X7_isOut
set_option maxRecDepth 20000 in
theorem ggX7_stepBy_X7_has : GoodIn wsX7_stepBy wsX7_has := goodIn_r _ [13] (by decide +kernel) (by decide +kernel)
set_option maxRecDepth 20000 in
theorem gX7_stepBy_X7_has : GoodIn wsX7_stepBy (va_wsS RX7 92 yX7_has wsX7_has) := goodIn_app (goodIn_of _ (by decide +kernel)) ggX7_stepBy_X7_has
set_option maxRecDepth 20000 in
theorem ggX7_stepBy_X7_nextOn : GoodIn wsX7_stepBy wsX7_nextOn := goodIn_r _ [17, 3, 18, 19, 20, 21, 22, 23, 24, 25, 9, 26, 27, 28, 11, 12, 13, 29, 30, 31, 32, 33, 34, 35, 36, 37, 38, 39, 40, 41, 42, 43, 44, 45, 46, 47, 48, 49, 50, 51, 52, 53, 54, 55, 56, 57, 58, 59, 60, 61, 62, 63, 64, 65, 66, 67, 68, 69] (by decide +kernel) (by decide +kernel)
set_option maxRecDepth 20000 in
theorem gX7_stepBy_X7_nextOn : GoodIn wsX7_stepBy (wsV RX7 159 RX7 yX7_nextOn wsX7_nextOn) := goodIn_app (goodIn_of _ (by decide +kernel)) ggX7_stepBy_X7_nextOn
theorem dX7_stepBy_0 : decode cX7_stepBy 0 = .ok (.bipush 19, 2) := by decide +kernel
theorem dX7_stepBy_2 : decode cX7_stepBy 2 = .ok (.iload_n 1, 1) := by decide +kernel
theorem dX7_stepBy_3 : decode cX7_stepBy 3 = .ok (.imul, 1) := by decide +kernel
theorem dX7_stepBy_4 : decode cX7_stepBy 4 = .ok (.istore_n 3, 1) := by decide +kernel
theorem dX7_stepBy_5 : decode cX7_stepBy 5 = .ok (.iconst 0, 1) := by decide +kernel
theorem dX7_stepBy_6 : decode cX7_stepBy 6 = .ok (.istore 4, 2) := by decide +kernel
theorem dX7_stepBy_8 : decode cX7_stepBy 8 = .ok (.iconst 0, 1) := by decide +kernel
theorem dX7_stepBy_9 : decode cX7_stepBy 9 = .ok (.istore 5, 2) := by decide +kernel
theorem dX7_stepBy_11 : decode cX7_stepBy 11 = .ok (.iload 5, 2) := by decide +kernel
theorem dX7_stepBy_13 : decode cX7_stepBy 13 = .ok (.aload_n 0, 1) := by decide +kernel
theorem dX7_stepBy_14 : decode cX7_stepBy 14 = .ok (.getfield 129, 3) := by decide +kernel
theorem dX7_stepBy_17 : decode cX7_stepBy 17 = .ok (.if_icmp .ge 215, 3) := by decide +kernel
theorem dX7_stepBy_20 : decode cX7_stepBy 20 = .ok (.aload_n 0, 1) := by decide +kernel
theorem dX7_stepBy_21 : decode cX7_stepBy 21 = .ok (.iload_n 1, 1) := by decide +kernel
theorem dX7_stepBy_22 : decode cX7_stepBy 22 = .ok (.iload 5, 2) := by decide +kernel
theorem dX7_stepBy_24 : decode cX7_stepBy 24 = .ok (.invokevirtual 156, 3) := by decide +kernel
theorem dX7_stepBy_27 : decode cX7_stepBy 27 = .ok (.ifCond .ne 199, 3) := by decide +kernel
theorem dX7_stepBy_30 : decode cX7_stepBy 30 = .ok (.aload_n 0, 1) := by decide +kernel
theorem dX7_stepBy_31 : decode cX7_stepBy 31 = .ok (.getfield 68, 3) := by decide +kernel
theorem dX7_stepBy_34 : decode cX7_stepBy 34 = .ok (.iload 5, 2) := by decide +kernel
theorem dX7_stepBy_36 : decode cX7_stepBy 36 = .ok (.invokestatic 92, 3) := by decide +kernel
theorem dX7_stepBy_39 : decode cX7_stepBy 39 = .ok (.ifCond .eq 187, 3) := by decide +kernel
theorem dX7_stepBy_42 : decode cX7_stepBy 42 = .ok (.aload_n 0, 1) := by decide +kernel
theorem dX7_stepBy_43 : decode cX7_stepBy 43 = .ok (.iload_n 1, 1) := by decide +kernel
theorem dX7_stepBy_44 : decode cX7_stepBy 44 = .ok (.iload 5, 2) := by decide +kernel
theorem dX7_stepBy_46 : decode cX7_stepBy 46 = .ok (.iload_n 2, 1) := by decide +kernel
theorem dX7_stepBy_47 : decode cX7_stepBy 47 = .ok (.invokevirtual 159, 3) := by decide +kernel
theorem dX7_stepBy_50 : decode cX7_stepBy 50 = .ok (.istore 6, 2) := by decide +kernel
theorem dX7_stepBy_52 : decode cX7_stepBy 52 = .ok (.iload 6, 2) := by decide +kernel
theorem dX7_stepBy_54 : decode cX7_stepBy 54 = .ok (.bipush (-9), 2) := by decide +kernel
theorem dX7_stepBy_56 : decode cX7_stepBy 56 = .ok (.if_icmp .eq 71, 3) := by decide +kernel
theorem dX7_stepBy_59 : decode cX7_stepBy 59 = .ok (.aload_n 0, 1) := by decide +kernel
theorem dX7_stepBy_60 : decode cX7_stepBy 60 = .ok (.getfield 28, 3) := by decide +kernel
theorem dX7_stepBy_63 : decode cX7_stepBy 63 = .ok (.iload_n 3, 1) := by decide +kernel
theorem dX7_stepBy_64 : decode cX7_stepBy 64 = .ok (.iconst 4, 1) := by decide +kernel
theorem dX7_stepBy_65 : decode cX7_stepBy 65 = .ok (.iadd, 1) := by decide +kernel
theorem dX7_stepBy_66 : decode cX7_stepBy 66 = .ok (.iload 5, 2) := by decide +kernel
theorem dX7_stepBy_68 : decode cX7_stepBy 68 = .ok (.iadd, 1) := by decide +kernel
theorem dX7_stepBy_69 : decode cX7_stepBy 69 = .ok (.aload_n 0, 1) := by decide +kernel
theorem dX7_stepBy_70 : decode cX7_stepBy 70 = .ok (.getfield 28, 3) := by decide +kernel
theorem dX7_stepBy_73 : decode cX7_stepBy 73 = .ok (.iload_n 3, 1) := by decide +kernel
theorem dX7_stepBy_74 : decode cX7_stepBy 74 = .ok (.iload 5, 2) := by decide +kernel
theorem dX7_stepBy_76 : decode cX7_stepBy 76 = .ok (.iadd, 1) := by decide +kernel
theorem dX7_stepBy_77 : decode cX7_stepBy 77 = .ok (.iaload, 1) := by decide +kernel
theorem dX7_stepBy_78 : decode cX7_stepBy 78 = .ok (.iastore, 1) := by decide +kernel
theorem dX7_stepBy_79 : decode cX7_stepBy 79 = .ok (.aload_n 0, 1) := by decide +kernel
theorem dX7_stepBy_80 : decode cX7_stepBy 80 = .ok (.getfield 28, 3) := by decide +kernel
theorem dX7_stepBy_83 : decode cX7_stepBy 83 = .ok (.iload_n 3, 1) := by decide +kernel
theorem dX7_stepBy_84 : decode cX7_stepBy 84 = .ok (.iload 5, 2) := by decide +kernel
theorem dX7_stepBy_86 : decode cX7_stepBy 86 = .ok (.iadd, 1) := by decide +kernel
theorem dX7_stepBy_87 : decode cX7_stepBy 87 = .ok (.iload 6, 2) := by decide +kernel
theorem dX7_stepBy_89 : decode cX7_stepBy 89 = .ok (.iastore, 1) := by decide +kernel
theorem dX7_stepBy_90 : decode cX7_stepBy 90 = .ok (.aload_n 0, 1) := by decide +kernel
theorem dX7_stepBy_91 : decode cX7_stepBy 91 = .ok (.getfield 28, 3) := by decide +kernel
theorem dX7_stepBy_94 : decode cX7_stepBy 94 = .ok (.iload_n 3, 1) := by decide +kernel
theorem dX7_stepBy_95 : decode cX7_stepBy 95 = .ok (.bipush 8, 2) := by decide +kernel
theorem dX7_stepBy_97 : decode cX7_stepBy 97 = .ok (.iadd, 1) := by decide +kernel
theorem dX7_stepBy_98 : decode cX7_stepBy 98 = .ok (.iload 5, 2) := by decide +kernel
theorem dX7_stepBy_100 : decode cX7_stepBy 100 = .ok (.iadd, 1) := by decide +kernel
theorem dX7_stepBy_101 : decode cX7_stepBy 101 = .ok (.dup2, 1) := by decide +kernel
theorem dX7_stepBy_102 : decode cX7_stepBy 102 = .ok (.iaload, 1) := by decide +kernel
theorem dX7_stepBy_103 : decode cX7_stepBy 103 = .ok (.aload_n 0, 1) := by decide +kernel
theorem dX7_stepBy_104 : decode cX7_stepBy 104 = .ok (.getfield 28, 3) := by decide +kernel
theorem dX7_stepBy_107 : decode cX7_stepBy 107 = .ok (.iload_n 3, 1) := by decide +kernel
theorem dX7_stepBy_108 : decode cX7_stepBy 108 = .ok (.bipush 8, 2) := by decide +kernel
theorem dX7_stepBy_110 : decode cX7_stepBy 110 = .ok (.iadd, 1) := by decide +kernel
theorem dX7_stepBy_111 : decode cX7_stepBy 111 = .ok (.iload 5, 2) := by decide +kernel
theorem dX7_stepBy_113 : decode cX7_stepBy 113 = .ok (.iadd, 1) := by decide +kernel
theorem dX7_stepBy_114 : decode cX7_stepBy 114 = .ok (.iaload, 1) := by decide +kernel
theorem dX7_stepBy_115 : decode cX7_stepBy 115 = .ok (.bipush 9, 2) := by decide +kernel
theorem dX7_stepBy_117 : decode cX7_stepBy 117 = .ok (.if_icmp .ge 7, 3) := by decide +kernel
theorem dX7_stepBy_120 : decode cX7_stepBy 120 = .ok (.iconst 1, 1) := by decide +kernel
theorem dX7_stepBy_121 : decode cX7_stepBy 121 = .ok (.goto 4, 3) := by decide +kernel
theorem dX7_stepBy_124 : decode cX7_stepBy 124 = .ok (.iconst 0, 1) := by decide +kernel
theorem dX7_stepBy_125 : decode cX7_stepBy 125 = .ok (.iadd, 1) := by decide +kernel
theorem dX7_stepBy_126 : decode cX7_stepBy 126 = .ok (.iastore, 1) := by decide +kernel
theorem dX7_stepBy_127 : decode cX7_stepBy 127 = .ok (.aload_n 0, 1) := by decide +kernel
theorem dX7_stepBy_128 : decode cX7_stepBy 128 = .ok (.getfield 28, 3) := by decide +kernel
theorem dX7_stepBy_131 : decode cX7_stepBy 131 = .ok (.iload_n 3, 1) := by decide +kernel
theorem dX7_stepBy_132 : decode cX7_stepBy 132 = .ok (.iload 5, 2) := by decide +kernel
theorem dX7_stepBy_134 : decode cX7_stepBy 134 = .ok (.iadd, 1) := by decide +kernel
theorem dX7_stepBy_135 : decode cX7_stepBy 135 = .ok (.iaload, 1) := by decide +kernel
theorem dX7_stepBy_136 : decode cX7_stepBy 136 = .ok (.istore 7, 2) := by decide +kernel
theorem dX7_stepBy_138 : decode cX7_stepBy 138 = .ok (.aload_n 0, 1) := by decide +kernel
theorem dX7_stepBy_139 : decode cX7_stepBy 139 = .ok (.getfield 28, 3) := by decide +kernel
theorem dX7_stepBy_142 : decode cX7_stepBy 142 = .ok (.iload_n 3, 1) := by decide +kernel
theorem dX7_stepBy_143 : decode cX7_stepBy 143 = .ok (.bipush 8, 2) := by decide +kernel
theorem dX7_stepBy_145 : decode cX7_stepBy 145 = .ok (.iadd, 1) := by decide +kernel
theorem dX7_stepBy_146 : decode cX7_stepBy 146 = .ok (.iload 5, 2) := by decide +kernel
theorem dX7_stepBy_148 : decode cX7_stepBy 148 = .ok (.iadd, 1) := by decide +kernel
theorem dX7_stepBy_149 : decode cX7_stepBy 149 = .ok (.iaload, 1) := by decide +kernel
theorem dX7_stepBy_150 : decode cX7_stepBy 150 = .ok (.aload_n 0, 1) := by decide +kernel
theorem dX7_stepBy_151 : decode cX7_stepBy 151 = .ok (.getfield 22, 3) := by decide +kernel
theorem dX7_stepBy_154 : decode cX7_stepBy 154 = .ok (.iload 5, 2) := by decide +kernel
theorem dX7_stepBy_156 : decode cX7_stepBy 156 = .ok (.iaload, 1) := by decide +kernel
theorem dX7_stepBy_157 : decode cX7_stepBy 157 = .ok (.if_icmp .lt 69, 3) := by decide +kernel
theorem dX7_stepBy_160 : decode cX7_stepBy 160 = .ok (.aload_n 0, 1) := by decide +kernel
theorem dX7_stepBy_161 : decode cX7_stepBy 161 = .ok (.getfield 13, 3) := by decide +kernel
theorem dX7_stepBy_164 : decode cX7_stepBy 164 = .ok (.iload 7, 2) := by decide +kernel
theorem dX7_stepBy_166 : decode cX7_stepBy 166 = .ok (.iaload, 1) := by decide +kernel
theorem dX7_stepBy_167 : decode cX7_stepBy 167 = .ok (.iconst 1, 1) := by decide +kernel
theorem dX7_stepBy_168 : decode cX7_stepBy 168 = .ok (.if_icmp .ne 58, 3) := by decide +kernel
theorem dX7_stepBy_171 : decode cX7_stepBy 171 = .ok (.aload_n 0, 1) := by decide +kernel
theorem dX7_stepBy_172 : decode cX7_stepBy 172 = .ok (.getfield 28, 3) := by decide +kernel
theorem dX7_stepBy_175 : decode cX7_stepBy 175 = .ok (.iload_n 3, 1) := by decide +kernel
theorem dX7_stepBy_176 : decode cX7_stepBy 176 = .ok (.bipush 17, 2) := by decide +kernel
theorem dX7_stepBy_178 : decode cX7_stepBy 178 = .ok (.iadd, 1) := by decide +kernel
theorem dX7_stepBy_179 : decode cX7_stepBy 179 = .ok (.iaload, 1) := by decide +kernel
theorem dX7_stepBy_180 : decode cX7_stepBy 180 = .ok (.iload 7, 2) := by decide +kernel
theorem dX7_stepBy_182 : decode cX7_stepBy 182 = .ok (.invokestatic 92, 3) := by decide +kernel
theorem dX7_stepBy_185 : decode cX7_stepBy 185 = .ok (.ifCond .ne 41, 3) := by decide +kernel
theorem dX7_stepBy_188 : decode cX7_stepBy 188 = .ok (.aload_n 0, 1) := by decide +kernel
theorem dX7_stepBy_189 : decode cX7_stepBy 189 = .ok (.getfield 28, 3) := by decide +kernel
theorem dX7_stepBy_192 : decode cX7_stepBy 192 = .ok (.iload_n 3, 1) := by decide +kernel
theorem dX7_stepBy_193 : decode cX7_stepBy 193 = .ok (.bipush 12, 2) := by decide +kernel
theorem dX7_stepBy_195 : decode cX7_stepBy 195 = .ok (.iadd, 1) := by decide +kernel
theorem dX7_stepBy_196 : decode cX7_stepBy 196 = .ok (.iload 5, 2) := by decide +kernel
theorem dX7_stepBy_198 : decode cX7_stepBy 198 = .ok (.iadd, 1) := by decide +kernel
theorem dX7_stepBy_199 : decode cX7_stepBy 199 = .ok (.iconst 1, 1) := by decide +kernel
theorem dX7_stepBy_200 : decode cX7_stepBy 200 = .ok (.iastore, 1) := by decide +kernel
theorem dX7_stepBy_201 : decode cX7_stepBy 201 = .ok (.aload_n 0, 1) := by decide +kernel
theorem dX7_stepBy_202 : decode cX7_stepBy 202 = .ok (.getfield 28, 3) := by decide +kernel
theorem dX7_stepBy_205 : decode cX7_stepBy 205 = .ok (.iload_n 3, 1) := by decide +kernel
theorem dX7_stepBy_206 : decode cX7_stepBy 206 = .ok (.bipush 17, 2) := by decide +kernel
theorem dX7_stepBy_208 : decode cX7_stepBy 208 = .ok (.iadd, 1) := by decide +kernel
theorem dX7_stepBy_209 : decode cX7_stepBy 209 = .ok (.dup2, 1) := by decide +kernel
theorem dX7_stepBy_210 : decode cX7_stepBy 210 = .ok (.iaload, 1) := by decide +kernel
theorem dX7_stepBy_211 : decode cX7_stepBy 211 = .ok (.iconst 1, 1) := by decide +kernel
theorem dX7_stepBy_212 : decode cX7_stepBy 212 = .ok (.iload 7, 2) := by decide +kernel
theorem dX7_stepBy_214 : decode cX7_stepBy 214 = .ok (.ishl, 1) := by decide +kernel
theorem dX7_stepBy_215 : decode cX7_stepBy 215 = .ok (.ior, 1) := by decide +kernel
theorem dX7_stepBy_216 : decode cX7_stepBy 216 = .ok (.iastore, 1) := by decide +kernel
theorem dX7_stepBy_217 : decode cX7_stepBy 217 = .ok (.iload 4, 2) := by decide +kernel
theorem dX7_stepBy_219 : decode cX7_stepBy 219 = .ok (.iconst 1, 1) := by decide +kernel
theorem dX7_stepBy_220 : decode cX7_stepBy 220 = .ok (.iload 5, 2) := by decide +kernel
theorem dX7_stepBy_222 : decode cX7_stepBy 222 = .ok (.ishl, 1) := by decide +kernel
theorem dX7_stepBy_223 : decode cX7_stepBy 223 = .ok (.ior, 1) := by decide +kernel
theorem dX7_stepBy_224 : decode cX7_stepBy 224 = .ok (.istore 4, 2) := by decide +kernel
theorem dX7_stepBy_226 : decode cX7_stepBy 226 = .ok (.iinc 5 1, 3) := by decide +kernel
theorem dX7_stepBy_229 : decode cX7_stepBy 229 = .ok (.goto (-218), 3) := by decide +kernel
theorem dX7_stepBy_232 : decode cX7_stepBy 232 = .ok (.aload_n 0, 1) := by decide +kernel
theorem dX7_stepBy_233 : decode cX7_stepBy 233 = .ok (.getfield 28, 3) := by decide +kernel
theorem dX7_stepBy_236 : decode cX7_stepBy 236 = .ok (.iload_n 3, 1) := by decide +kernel
theorem dX7_stepBy_237 : decode cX7_stepBy 237 = .ok (.bipush 18, 2) := by decide +kernel
theorem dX7_stepBy_239 : decode cX7_stepBy 239 = .ok (.iadd, 1) := by decide +kernel
theorem dX7_stepBy_240 : decode cX7_stepBy 240 = .ok (.dup2, 1) := by decide +kernel
theorem dX7_stepBy_241 : decode cX7_stepBy 241 = .ok (.iaload, 1) := by decide +kernel
theorem dX7_stepBy_242 : decode cX7_stepBy 242 = .ok (.iconst 1, 1) := by decide +kernel
theorem dX7_stepBy_243 : decode cX7_stepBy 243 = .ok (.iadd, 1) := by decide +kernel
theorem dX7_stepBy_244 : decode cX7_stepBy 244 = .ok (.iastore, 1) := by decide +kernel
theorem dX7_stepBy_245 : decode cX7_stepBy 245 = .ok (.iload 4, 2) := by decide +kernel
theorem dX7_stepBy_247 : decode cX7_stepBy 247 = .ok (.ireturn, 1) := by decide +kernel
set_option maxRecDepth 20000 in
theorem ggX7_stepOn_X7_tideOn : GoodIn wsX7_stepOn wsX7_tideOn := goodIn_r _ [5, 6, 7, 8, 43, 44, 45, 46, 47, 48, 49, 50, 51, 52, 53, 54, 55, 56, 57, 58, 59, 60, 61, 62, 63, 64, 65, 66, 67, 68, 69, 70, 71, 72, 73, 74, 75, 76, 77, 78, 79] (by decide +kernel) (by decide +kernel)
set_option maxRecDepth 20000 in
theorem gX7_stepOn_X7_tideOn : GoodIn wsX7_stepOn (wsV RX7 162 RX7 yX7_tideOn wsX7_tideOn) := goodIn_app (goodIn_of _ (by decide +kernel)) ggX7_stepOn_X7_tideOn
set_option maxRecDepth 20000 in
theorem ggX7_stepOn_X7_stepBy : GoodIn wsX7_stepOn wsX7_stepBy := goodIn_r _ [12, 13, 14, 6, 15, 16, 17, 18, 19, 4, 20, 21, 22, 23, 24, 25, 26, 27, 28, 29, 30, 31, 32, 33, 34, 35, 36, 37, 38, 39, 40, 41, 42, 43, 44, 45, 46, 47, 48, 49, 50, 51, 52, 53, 54, 55, 56, 57, 58, 59, 60, 61, 62, 63, 64, 65, 66, 67, 68, 69, 70, 71, 72, 73, 74, 75, 76, 77, 78, 79] (by decide +kernel) (by decide +kernel)
set_option maxRecDepth 20000 in
theorem gX7_stepOn_X7_stepBy : GoodIn wsX7_stepOn (wsV RX7 165 RX7 yX7_stepBy wsX7_stepBy) := goodIn_app (goodIn_of _ (by decide +kernel)) ggX7_stepOn_X7_stepBy
theorem dX7_stepOn_0 : decode cX7_stepOn 0 = .ok (.aload_n 0, 1) := by decide +kernel
theorem dX7_stepOn_1 : decode cX7_stepOn 1 = .ok (.iload_n 1, 1) := by decide +kernel
theorem dX7_stepOn_2 : decode cX7_stepOn 2 = .ok (.aload_n 0, 1) := by decide +kernel
theorem dX7_stepOn_3 : decode cX7_stepOn 3 = .ok (.iload_n 1, 1) := by decide +kernel
theorem dX7_stepOn_4 : decode cX7_stepOn 4 = .ok (.invokevirtual 162, 3) := by decide +kernel
theorem dX7_stepOn_7 : decode cX7_stepOn 7 = .ok (.invokevirtual 165, 3) := by decide +kernel
theorem dX7_stepOn_10 : decode cX7_stepOn 10 = .ok (.ireturn, 1) := by decide +kernel
set_option maxRecDepth 20000 in
theorem ggX7_outOn_X7_isOut : GoodIn wsX7_outOn wsX7_isOut := goodIn_r _ [8, 2, 9, 10, 11, 12, 13, 14, 15, 16, 17, 18, 19, 20, 21, 22, 23, 24, 25, 26, 27, 28, 29, 30, 31, 32, 33, 34, 35, 36, 37, 38, 39, 40, 41, 42, 43, 44, 45] (by decide +kernel) (by decide +kernel)
set_option maxRecDepth 20000 in
theorem gX7_outOn_X7_isOut : GoodIn wsX7_outOn (wsV RX7 156 RX7 yX7_isOut wsX7_isOut) := goodIn_app (goodIn_of _ (by decide +kernel)) ggX7_outOn_X7_isOut
theorem dX7_outOn_0 : decode cX7_outOn 0 = .ok (.iconst 0, 1) := by decide +kernel
theorem dX7_outOn_1 : decode cX7_outOn 1 = .ok (.istore_n 3, 1) := by decide +kernel
theorem dX7_outOn_2 : decode cX7_outOn 2 = .ok (.iconst 0, 1) := by decide +kernel
theorem dX7_outOn_3 : decode cX7_outOn 3 = .ok (.istore 4, 2) := by decide +kernel
theorem dX7_outOn_5 : decode cX7_outOn 5 = .ok (.iload 4, 2) := by decide +kernel
theorem dX7_outOn_7 : decode cX7_outOn 7 = .ok (.aload_n 0, 1) := by decide +kernel
theorem dX7_outOn_8 : decode cX7_outOn 8 = .ok (.getfield 129, 3) := by decide +kernel
theorem dX7_outOn_11 : decode cX7_outOn 11 = .ok (.if_icmp .ge 68, 3) := by decide +kernel
theorem dX7_outOn_14 : decode cX7_outOn 14 = .ok (.aload_n 0, 1) := by decide +kernel
theorem dX7_outOn_15 : decode cX7_outOn 15 = .ok (.iload_n 1, 1) := by decide +kernel
theorem dX7_outOn_16 : decode cX7_outOn 16 = .ok (.iload 4, 2) := by decide +kernel
theorem dX7_outOn_18 : decode cX7_outOn 18 = .ok (.invokevirtual 156, 3) := by decide +kernel
theorem dX7_outOn_21 : decode cX7_outOn 21 = .ok (.ifCond .eq 33, 3) := by decide +kernel
theorem dX7_outOn_24 : decode cX7_outOn 24 = .ok (.iload_n 2, 1) := by decide +kernel
theorem dX7_outOn_25 : decode cX7_outOn 25 = .ok (.ifCond .eq 25, 3) := by decide +kernel
theorem dX7_outOn_28 : decode cX7_outOn 28 = .ok (.aload_n 0, 1) := by decide +kernel
theorem dX7_outOn_29 : decode cX7_outOn 29 = .ok (.getfield 28, 3) := by decide +kernel
theorem dX7_outOn_32 : decode cX7_outOn 32 = .ok (.bipush 19, 2) := by decide +kernel
theorem dX7_outOn_34 : decode cX7_outOn 34 = .ok (.iload_n 1, 1) := by decide +kernel
theorem dX7_outOn_35 : decode cX7_outOn 35 = .ok (.imul, 1) := by decide +kernel
theorem dX7_outOn_36 : decode cX7_outOn 36 = .ok (.iload 4, 2) := by decide +kernel
theorem dX7_outOn_38 : decode cX7_outOn 38 = .ok (.iadd, 1) := by decide +kernel
theorem dX7_outOn_39 : decode cX7_outOn 39 = .ok (.iaload, 1) := by decide +kernel
theorem dX7_outOn_40 : decode cX7_outOn 40 = .ok (.aload_n 0, 1) := by decide +kernel
theorem dX7_outOn_41 : decode cX7_outOn 41 = .ok (.getfield 25, 3) := by decide +kernel
theorem dX7_outOn_44 : decode cX7_outOn 44 = .ok (.iload 4, 2) := by decide +kernel
theorem dX7_outOn_46 : decode cX7_outOn 46 = .ok (.iaload, 1) := by decide +kernel
theorem dX7_outOn_47 : decode cX7_outOn 47 = .ok (.if_icmp .ne 7, 3) := by decide +kernel
theorem dX7_outOn_50 : decode cX7_outOn 50 = .ok (.iconst 1, 1) := by decide +kernel
theorem dX7_outOn_51 : decode cX7_outOn 51 = .ok (.goto 4, 3) := by decide +kernel
theorem dX7_outOn_54 : decode cX7_outOn 54 = .ok (.iconst 0, 1) := by decide +kernel
theorem dX7_outOn_55 : decode cX7_outOn 55 = .ok (.istore 5, 2) := by decide +kernel
theorem dX7_outOn_57 : decode cX7_outOn 57 = .ok (.iload_n 3, 1) := by decide +kernel
theorem dX7_outOn_58 : decode cX7_outOn 58 = .ok (.iload 5, 2) := by decide +kernel
theorem dX7_outOn_60 : decode cX7_outOn 60 = .ok (.ifCond .eq 10, 3) := by decide +kernel
theorem dX7_outOn_63 : decode cX7_outOn 63 = .ok (.iconst 1, 1) := by decide +kernel
theorem dX7_outOn_64 : decode cX7_outOn 64 = .ok (.iload 4, 2) := by decide +kernel
theorem dX7_outOn_66 : decode cX7_outOn 66 = .ok (.ishl, 1) := by decide +kernel
theorem dX7_outOn_67 : decode cX7_outOn 67 = .ok (.goto 4, 3) := by decide +kernel
theorem dX7_outOn_70 : decode cX7_outOn 70 = .ok (.iconst 0, 1) := by decide +kernel
theorem dX7_outOn_71 : decode cX7_outOn 71 = .ok (.ior, 1) := by decide +kernel
theorem dX7_outOn_72 : decode cX7_outOn 72 = .ok (.istore_n 3, 1) := by decide +kernel
theorem dX7_outOn_73 : decode cX7_outOn 73 = .ok (.iinc 4 1, 3) := by decide +kernel
theorem dX7_outOn_76 : decode cX7_outOn 76 = .ok (.goto (-71), 3) := by decide +kernel
theorem dX7_outOn_79 : decode cX7_outOn 79 = .ok (.iload_n 3, 1) := by decide +kernel
theorem dX7_outOn_80 : decode cX7_outOn 80 = .ok (.ireturn, 1) := by decide +kernel
set_option maxRecDepth 20000 in
theorem ggX7_joint_X7_isJoint : GoodIn wsX7_joint wsX7_isJoint := goodIn_r _ [8, 9, 10, 11, 7, 12, 28, 29, 30, 31, 32, 33, 34, 35, 36, 37, 38, 39, 40, 41, 42, 43, 44, 45, 46, 47, 48, 49, 50, 51, 52, 53, 54, 55, 56, 57, 58, 59, 60, 61, 62, 63, 64] (by decide +kernel) (by decide +kernel)
set_option maxRecDepth 20000 in
theorem gX7_joint_X7_isJoint : GoodIn wsX7_joint (wsV RX7 168 RX7 yX7_isJoint wsX7_isJoint) := goodIn_app (goodIn_of _ (by decide +kernel)) ggX7_joint_X7_isJoint
set_option maxRecDepth 20000 in
theorem ggX7_joint_X7_tideOn : GoodIn wsX7_joint wsX7_tideOn := goodIn_r _ [16, 3, 17, 18, 28, 29, 30, 31, 32, 33, 34, 35, 36, 37, 38, 39, 40, 41, 42, 43, 44, 45, 46, 47, 48, 49, 50, 51, 52, 53, 54, 55, 56, 57, 58, 59, 60, 61, 62, 63, 64] (by decide +kernel) (by decide +kernel)
set_option maxRecDepth 20000 in
theorem gX7_joint_X7_tideOn : GoodIn wsX7_joint (wsV RX7 162 RX7 yX7_tideOn wsX7_tideOn) := goodIn_app (goodIn_of _ (by decide +kernel)) ggX7_joint_X7_tideOn
set_option maxRecDepth 20000 in
theorem ggX7_joint_X7_joinedOn : GoodIn wsX7_joint wsX7_joinedOn := goodIn_r _ [22, 23, 3, 24, 25, 26, 7, 27, 28, 29, 30, 31, 32, 33, 34, 35, 36, 37, 38, 39, 40, 41, 42, 43, 44, 45, 46, 47, 48, 49, 50, 51, 52, 53, 54, 55, 56, 57, 58, 59, 60, 61, 62, 63, 64] (by decide +kernel) (by decide +kernel)
set_option maxRecDepth 20000 in
theorem gX7_joint_X7_joinedOn : GoodIn wsX7_joint (wsV RX7 148 RX7 yX7_joinedOn wsX7_joinedOn) := goodIn_app (goodIn_of _ (by decide +kernel)) ggX7_joint_X7_joinedOn
theorem dX7_joint_0 : decode cX7_joint 0 = .ok (.aload_n 0, 1) := by decide +kernel
theorem dX7_joint_1 : decode cX7_joint 1 = .ok (.iload_n 1, 1) := by decide +kernel
theorem dX7_joint_2 : decode cX7_joint 2 = .ok (.invokevirtual 168, 3) := by decide +kernel
theorem dX7_joint_5 : decode cX7_joint 5 = .ok (.ifCond .ne 5, 3) := by decide +kernel
theorem dX7_joint_8 : decode cX7_joint 8 = .ok (.iconst (-1), 1) := by decide +kernel
theorem dX7_joint_9 : decode cX7_joint 9 = .ok (.ireturn, 1) := by decide +kernel
theorem dX7_joint_10 : decode cX7_joint 10 = .ok (.iload_n 2, 1) := by decide +kernel
theorem dX7_joint_11 : decode cX7_joint 11 = .ok (.tableswitch 86 0 4 #[33, 40, 47, 59, 79], 33) := by decide +kernel
theorem dX7_joint_44 : decode cX7_joint 44 = .ok (.aload_n 0, 1) := by decide +kernel
theorem dX7_joint_45 : decode cX7_joint 45 = .ok (.getfield 7, 3) := by decide +kernel
theorem dX7_joint_48 : decode cX7_joint 48 = .ok (.iload_n 1, 1) := by decide +kernel
theorem dX7_joint_49 : decode cX7_joint 49 = .ok (.iaload, 1) := by decide +kernel
theorem dX7_joint_50 : decode cX7_joint 50 = .ok (.ireturn, 1) := by decide +kernel
theorem dX7_joint_51 : decode cX7_joint 51 = .ok (.aload_n 0, 1) := by decide +kernel
theorem dX7_joint_52 : decode cX7_joint 52 = .ok (.getfield 13, 3) := by decide +kernel
theorem dX7_joint_55 : decode cX7_joint 55 = .ok (.iload_n 1, 1) := by decide +kernel
theorem dX7_joint_56 : decode cX7_joint 56 = .ok (.iaload, 1) := by decide +kernel
theorem dX7_joint_57 : decode cX7_joint 57 = .ok (.ireturn, 1) := by decide +kernel
theorem dX7_joint_58 : decode cX7_joint 58 = .ok (.aload_n 0, 1) := by decide +kernel
theorem dX7_joint_59 : decode cX7_joint 59 = .ok (.getfield 28, 3) := by decide +kernel
theorem dX7_joint_62 : decode cX7_joint 62 = .ok (.bipush 17, 2) := by decide +kernel
theorem dX7_joint_64 : decode cX7_joint 64 = .ok (.iaload, 1) := by decide +kernel
theorem dX7_joint_65 : decode cX7_joint 65 = .ok (.iload_n 1, 1) := by decide +kernel
theorem dX7_joint_66 : decode cX7_joint 66 = .ok (.ishr, 1) := by decide +kernel
theorem dX7_joint_67 : decode cX7_joint 67 = .ok (.iconst 1, 1) := by decide +kernel
theorem dX7_joint_68 : decode cX7_joint 68 = .ok (.iand, 1) := by decide +kernel
theorem dX7_joint_69 : decode cX7_joint 69 = .ok (.ireturn, 1) := by decide +kernel
theorem dX7_joint_70 : decode cX7_joint 70 = .ok (.aload_n 0, 1) := by decide +kernel
theorem dX7_joint_71 : decode cX7_joint 71 = .ok (.getfield 7, 3) := by decide +kernel
theorem dX7_joint_74 : decode cX7_joint 74 = .ok (.iload_n 1, 1) := by decide +kernel
theorem dX7_joint_75 : decode cX7_joint 75 = .ok (.iaload, 1) := by decide +kernel
theorem dX7_joint_76 : decode cX7_joint 76 = .ok (.aload_n 0, 1) := by decide +kernel
theorem dX7_joint_77 : decode cX7_joint 77 = .ok (.iconst 0, 1) := by decide +kernel
theorem dX7_joint_78 : decode cX7_joint 78 = .ok (.invokevirtual 162, 3) := by decide +kernel
theorem dX7_joint_81 : decode cX7_joint 81 = .ok (.if_icmp .ge 7, 3) := by decide +kernel
theorem dX7_joint_84 : decode cX7_joint 84 = .ok (.iconst 1, 1) := by decide +kernel
theorem dX7_joint_85 : decode cX7_joint 85 = .ok (.goto 4, 3) := by decide +kernel
theorem dX7_joint_88 : decode cX7_joint 88 = .ok (.iconst 0, 1) := by decide +kernel
theorem dX7_joint_89 : decode cX7_joint 89 = .ok (.ireturn, 1) := by decide +kernel
theorem dX7_joint_90 : decode cX7_joint 90 = .ok (.aload_n 0, 1) := by decide +kernel
theorem dX7_joint_91 : decode cX7_joint 91 = .ok (.iconst 0, 1) := by decide +kernel
theorem dX7_joint_92 : decode cX7_joint 92 = .ok (.iload_n 1, 1) := by decide +kernel
theorem dX7_joint_93 : decode cX7_joint 93 = .ok (.invokevirtual 148, 3) := by decide +kernel
theorem dX7_joint_96 : decode cX7_joint 96 = .ok (.ireturn, 1) := by decide +kernel
theorem dX7_joint_97 : decode cX7_joint 97 = .ok (.bipush (-2), 2) := by decide +kernel
theorem dX7_joint_99 : decode cX7_joint 99 = .ok (.ireturn, 1) := by decide +kernel
set_option maxRecDepth 20000 in
theorem ggX7_pipe_X7_isPipe : GoodIn wsX7_pipe wsX7_isPipe := goodIn_r _ [7, 8, 9, 10, 6, 11, 12, 13, 14, 15, 16, 17, 18, 19, 20, 21, 22, 23, 24, 25, 26, 27, 28, 29, 30, 31, 32, 33, 34, 35, 36, 37, 38, 39, 40, 41, 42, 43, 44, 45, 46, 47, 48] (by decide +kernel) (by decide +kernel)
set_option maxRecDepth 20000 in
theorem gX7_pipe_X7_isPipe : GoodIn wsX7_pipe (wsV RX7 172 RX7 yX7_isPipe wsX7_isPipe) := goodIn_app (goodIn_of _ (by decide +kernel)) ggX7_pipe_X7_isPipe
set_option maxRecDepth 20000 in
theorem ggX7_pipe_X7_in : GoodIn wsX7_pipe wsX7_in := goodIn_r _ [11] (by decide +kernel) (by decide +kernel)
set_option maxRecDepth 20000 in
theorem gX7_pipe_X7_in : GoodIn wsX7_pipe (va_wsS RX7 77 yX7_in wsX7_in) := goodIn_app (goodIn_of _ (by decide +kernel)) ggX7_pipe_X7_in
theorem dX7_pipe_0 : decode cX7_pipe 0 = .ok (.aload_n 0, 1) := by decide +kernel
theorem dX7_pipe_1 : decode cX7_pipe 1 = .ok (.iload_n 1, 1) := by decide +kernel
theorem dX7_pipe_2 : decode cX7_pipe 2 = .ok (.invokevirtual 172, 3) := by decide +kernel
theorem dX7_pipe_5 : decode cX7_pipe 5 = .ok (.ifCond .ne 5, 3) := by decide +kernel
theorem dX7_pipe_8 : decode cX7_pipe 8 = .ok (.iconst (-1), 1) := by decide +kernel
theorem dX7_pipe_9 : decode cX7_pipe 9 = .ok (.ireturn, 1) := by decide +kernel
theorem dX7_pipe_10 : decode cX7_pipe 10 = .ok (.iload_n 2, 1) := by decide +kernel
theorem dX7_pipe_11 : decode cX7_pipe 11 = .ok (.i2l, 1) := by decide +kernel
theorem dX7_pipe_12 : decode cX7_pipe 12 = .ok (.lconst 0, 1) := by decide +kernel
theorem dX7_pipe_13 : decode cX7_pipe 13 = .ok (.lconst 1, 1) := by decide +kernel
theorem dX7_pipe_14 : decode cX7_pipe 14 = .ok (.invokestatic 77, 3) := by decide +kernel
theorem dX7_pipe_17 : decode cX7_pipe 17 = .ok (.ifCond .eq 16, 3) := by decide +kernel
theorem dX7_pipe_20 : decode cX7_pipe 20 = .ok (.aload_n 0, 1) := by decide +kernel
theorem dX7_pipe_21 : decode cX7_pipe 21 = .ok (.getfield 16, 3) := by decide +kernel
theorem dX7_pipe_24 : decode cX7_pipe 24 = .ok (.iconst 2, 1) := by decide +kernel
theorem dX7_pipe_25 : decode cX7_pipe 25 = .ok (.iload_n 1, 1) := by decide +kernel
theorem dX7_pipe_26 : decode cX7_pipe 26 = .ok (.imul, 1) := by decide +kernel
theorem dX7_pipe_27 : decode cX7_pipe 27 = .ok (.iload_n 2, 1) := by decide +kernel
theorem dX7_pipe_28 : decode cX7_pipe 28 = .ok (.iadd, 1) := by decide +kernel
theorem dX7_pipe_29 : decode cX7_pipe 29 = .ok (.iaload, 1) := by decide +kernel
theorem dX7_pipe_30 : decode cX7_pipe 30 = .ok (.goto 24, 3) := by decide +kernel
theorem dX7_pipe_33 : decode cX7_pipe 33 = .ok (.iload_n 2, 1) := by decide +kernel
theorem dX7_pipe_34 : decode cX7_pipe 34 = .ok (.iconst 2, 1) := by decide +kernel
theorem dX7_pipe_35 : decode cX7_pipe 35 = .ok (.if_icmp .ne 17, 3) := by decide +kernel
theorem dX7_pipe_38 : decode cX7_pipe 38 = .ok (.aload_n 0, 1) := by decide +kernel
theorem dX7_pipe_39 : decode cX7_pipe 39 = .ok (.getfield 28, 3) := by decide +kernel
theorem dX7_pipe_42 : decode cX7_pipe 42 = .ok (.bipush 16, 2) := by decide +kernel
theorem dX7_pipe_44 : decode cX7_pipe 44 = .ok (.iaload, 1) := by decide +kernel
theorem dX7_pipe_45 : decode cX7_pipe 45 = .ok (.iload_n 1, 1) := by decide +kernel
theorem dX7_pipe_46 : decode cX7_pipe 46 = .ok (.ishr, 1) := by decide +kernel
theorem dX7_pipe_47 : decode cX7_pipe 47 = .ok (.iconst 1, 1) := by decide +kernel
theorem dX7_pipe_48 : decode cX7_pipe 48 = .ok (.iand, 1) := by decide +kernel
theorem dX7_pipe_49 : decode cX7_pipe 49 = .ok (.goto 5, 3) := by decide +kernel
theorem dX7_pipe_52 : decode cX7_pipe 52 = .ok (.bipush (-2), 2) := by decide +kernel
theorem dX7_pipe_54 : decode cX7_pipe 54 = .ok (.ireturn, 1) := by decide +kernel
set_option maxRecDepth 20000 in
theorem ggX7_walker_X7_isWalker : GoodIn wsX7_walker wsX7_isWalker := goodIn_r _ [9, 10, 11, 12, 8, 13, 45, 46, 47, 48, 49, 50, 51, 52, 53, 54, 55, 56, 57, 58, 59, 60, 61, 62, 63, 64, 65, 66, 67, 68, 69, 70, 71, 72, 73, 74, 75, 76, 77, 78, 79, 80, 81] (by decide +kernel) (by decide +kernel)
set_option maxRecDepth 20000 in
theorem gX7_walker_X7_isWalker : GoodIn wsX7_walker (wsV RX7 175 RX7 yX7_isWalker wsX7_isWalker) := goodIn_app (goodIn_of _ (by decide +kernel)) ggX7_walker_X7_isWalker
set_option maxRecDepth 20000 in
theorem ggX7_walker_X7_isOut : GoodIn wsX7_walker wsX7_isOut := goodIn_r _ [17, 1, 45, 46, 47, 48, 49, 50, 51, 52, 53, 54, 55, 56, 57, 58, 59, 60, 61, 62, 63, 64, 65, 66, 67, 68, 69, 70, 71, 72, 73, 74, 75, 76, 77, 78, 79, 80, 81] (by decide +kernel) (by decide +kernel)
set_option maxRecDepth 20000 in
theorem gX7_walker_X7_isOut : GoodIn wsX7_walker (wsV RX7 156 RX7 yX7_isOut wsX7_isOut) := goodIn_app (goodIn_of _ (by decide +kernel)) ggX7_walker_X7_isOut
set_option maxRecDepth 20000 in
theorem ggX7_walker_X7_tideOn : GoodIn wsX7_walker wsX7_tideOn := goodIn_r _ [21, 1, 22, 23, 45, 46, 47, 48, 49, 50, 51, 52, 53, 54, 55, 56, 57, 58, 59, 60, 61, 62, 63, 64, 65, 66, 67, 68, 69, 70, 71, 72, 73, 74, 75, 76, 77, 78, 79, 80, 81] (by decide +kernel) (by decide +kernel)
set_option maxRecDepth 20000 in
theorem gX7_walker_X7_tideOn : GoodIn wsX7_walker (wsV RX7 162 RX7 yX7_tideOn wsX7_tideOn) := goodIn_app (goodIn_of _ (by decide +kernel)) ggX7_walker_X7_tideOn
set_option maxRecDepth 20000 in
theorem ggX7_walker_X7_nextOn : GoodIn wsX7_walker wsX7_nextOn := goodIn_r _ [27, 1, 28, 29, 2, 30, 31, 32, 33, 34, 8, 35, 36, 37, 38, 39, 40, 41, 42, 43, 44, 45, 46, 47, 48, 49, 50, 51, 52, 53, 54, 55, 56, 57, 58, 59, 60, 61, 62, 63, 64, 65, 66, 67, 68, 69, 70, 71, 72, 73, 74, 75, 76, 77, 78, 79, 80, 81] (by decide +kernel) (by decide +kernel)
set_option maxRecDepth 20000 in
theorem gX7_walker_X7_nextOn : GoodIn wsX7_walker (wsV RX7 159 RX7 yX7_nextOn wsX7_nextOn) := goodIn_app (goodIn_of _ (by decide +kernel)) ggX7_walker_X7_nextOn
theorem dX7_walker_0 : decode cX7_walker 0 = .ok (.aload_n 0, 1) := by decide +kernel
theorem dX7_walker_1 : decode cX7_walker 1 = .ok (.iload_n 1, 1) := by decide +kernel
theorem dX7_walker_2 : decode cX7_walker 2 = .ok (.invokevirtual 175, 3) := by decide +kernel
theorem dX7_walker_5 : decode cX7_walker 5 = .ok (.ifCond .ne 5, 3) := by decide +kernel
theorem dX7_walker_8 : decode cX7_walker 8 = .ok (.iconst (-1), 1) := by decide +kernel
theorem dX7_walker_9 : decode cX7_walker 9 = .ok (.ireturn, 1) := by decide +kernel
theorem dX7_walker_10 : decode cX7_walker 10 = .ok (.iload_n 2, 1) := by decide +kernel
theorem dX7_walker_11 : decode cX7_walker 11 = .ok (.tableswitch 128 0 7 #[45, 52, 61, 71, 78, 85, 95, 121], 45) := by decide +kernel
theorem dX7_walker_56 : decode cX7_walker 56 = .ok (.aload_n 0, 1) := by decide +kernel
theorem dX7_walker_57 : decode cX7_walker 57 = .ok (.getfield 28, 3) := by decide +kernel
theorem dX7_walker_60 : decode cX7_walker 60 = .ok (.iload_n 1, 1) := by decide +kernel
theorem dX7_walker_61 : decode cX7_walker 61 = .ok (.iaload, 1) := by decide +kernel
theorem dX7_walker_62 : decode cX7_walker 62 = .ok (.ireturn, 1) := by decide +kernel
theorem dX7_walker_63 : decode cX7_walker 63 = .ok (.aload_n 0, 1) := by decide +kernel
theorem dX7_walker_64 : decode cX7_walker 64 = .ok (.getfield 28, 3) := by decide +kernel
theorem dX7_walker_67 : decode cX7_walker 67 = .ok (.iconst 4, 1) := by decide +kernel
theorem dX7_walker_68 : decode cX7_walker 68 = .ok (.iload_n 1, 1) := by decide +kernel
theorem dX7_walker_69 : decode cX7_walker 69 = .ok (.iadd, 1) := by decide +kernel
theorem dX7_walker_70 : decode cX7_walker 70 = .ok (.iaload, 1) := by decide +kernel
theorem dX7_walker_71 : decode cX7_walker 71 = .ok (.ireturn, 1) := by decide +kernel
theorem dX7_walker_72 : decode cX7_walker 72 = .ok (.aload_n 0, 1) := by decide +kernel
theorem dX7_walker_73 : decode cX7_walker 73 = .ok (.getfield 28, 3) := by decide +kernel
theorem dX7_walker_76 : decode cX7_walker 76 = .ok (.bipush 8, 2) := by decide +kernel
theorem dX7_walker_78 : decode cX7_walker 78 = .ok (.iload_n 1, 1) := by decide +kernel
theorem dX7_walker_79 : decode cX7_walker 79 = .ok (.iadd, 1) := by decide +kernel
theorem dX7_walker_80 : decode cX7_walker 80 = .ok (.iaload, 1) := by decide +kernel
theorem dX7_walker_81 : decode cX7_walker 81 = .ok (.ireturn, 1) := by decide +kernel
theorem dX7_walker_82 : decode cX7_walker 82 = .ok (.aload_n 0, 1) := by decide +kernel
theorem dX7_walker_83 : decode cX7_walker 83 = .ok (.getfield 19, 3) := by decide +kernel
theorem dX7_walker_86 : decode cX7_walker 86 = .ok (.iload_n 1, 1) := by decide +kernel
theorem dX7_walker_87 : decode cX7_walker 87 = .ok (.iaload, 1) := by decide +kernel
theorem dX7_walker_88 : decode cX7_walker 88 = .ok (.ireturn, 1) := by decide +kernel
theorem dX7_walker_89 : decode cX7_walker 89 = .ok (.aload_n 0, 1) := by decide +kernel
theorem dX7_walker_90 : decode cX7_walker 90 = .ok (.getfield 25, 3) := by decide +kernel
theorem dX7_walker_93 : decode cX7_walker 93 = .ok (.iload_n 1, 1) := by decide +kernel
theorem dX7_walker_94 : decode cX7_walker 94 = .ok (.iaload, 1) := by decide +kernel
theorem dX7_walker_95 : decode cX7_walker 95 = .ok (.ireturn, 1) := by decide +kernel
theorem dX7_walker_96 : decode cX7_walker 96 = .ok (.aload_n 0, 1) := by decide +kernel
theorem dX7_walker_97 : decode cX7_walker 97 = .ok (.getfield 28, 3) := by decide +kernel
theorem dX7_walker_100 : decode cX7_walker 100 = .ok (.bipush 12, 2) := by decide +kernel
theorem dX7_walker_102 : decode cX7_walker 102 = .ok (.iload_n 1, 1) := by decide +kernel
theorem dX7_walker_103 : decode cX7_walker 103 = .ok (.iadd, 1) := by decide +kernel
theorem dX7_walker_104 : decode cX7_walker 104 = .ok (.iaload, 1) := by decide +kernel
theorem dX7_walker_105 : decode cX7_walker 105 = .ok (.ireturn, 1) := by decide +kernel
theorem dX7_walker_106 : decode cX7_walker 106 = .ok (.aload_n 0, 1) := by decide +kernel
theorem dX7_walker_107 : decode cX7_walker 107 = .ok (.iconst 0, 1) := by decide +kernel
theorem dX7_walker_108 : decode cX7_walker 108 = .ok (.iload_n 1, 1) := by decide +kernel
theorem dX7_walker_109 : decode cX7_walker 109 = .ok (.invokevirtual 156, 3) := by decide +kernel
theorem dX7_walker_112 : decode cX7_walker 112 = .ok (.ifCond .eq 8, 3) := by decide +kernel
theorem dX7_walker_115 : decode cX7_walker 115 = .ok (.bipush (-9), 2) := by decide +kernel
theorem dX7_walker_117 : decode cX7_walker 117 = .ok (.goto 14, 3) := by decide +kernel
theorem dX7_walker_120 : decode cX7_walker 120 = .ok (.aload_n 0, 1) := by decide +kernel
theorem dX7_walker_121 : decode cX7_walker 121 = .ok (.iconst 0, 1) := by decide +kernel
theorem dX7_walker_122 : decode cX7_walker 122 = .ok (.iload_n 1, 1) := by decide +kernel
theorem dX7_walker_123 : decode cX7_walker 123 = .ok (.aload_n 0, 1) := by decide +kernel
theorem dX7_walker_124 : decode cX7_walker 124 = .ok (.iconst 0, 1) := by decide +kernel
theorem dX7_walker_125 : decode cX7_walker 125 = .ok (.invokevirtual 162, 3) := by decide +kernel
theorem dX7_walker_128 : decode cX7_walker 128 = .ok (.invokevirtual 159, 3) := by decide +kernel
theorem dX7_walker_131 : decode cX7_walker 131 = .ok (.ireturn, 1) := by decide +kernel
theorem dX7_walker_132 : decode cX7_walker 132 = .ok (.aload_n 0, 1) := by decide +kernel
theorem dX7_walker_133 : decode cX7_walker 133 = .ok (.getfield 22, 3) := by decide +kernel
theorem dX7_walker_136 : decode cX7_walker 136 = .ok (.iload_n 1, 1) := by decide +kernel
theorem dX7_walker_137 : decode cX7_walker 137 = .ok (.iaload, 1) := by decide +kernel
theorem dX7_walker_138 : decode cX7_walker 138 = .ok (.ireturn, 1) := by decide +kernel
theorem dX7_walker_139 : decode cX7_walker 139 = .ok (.bipush (-2), 2) := by decide +kernel
theorem dX7_walker_141 : decode cX7_walker 141 = .ok (.ireturn, 1) := by decide +kernel
theorem dX7_keepAct_0 : decode cX7_keepAct 0 = .ok (.iconst 0, 1) := by decide +kernel
theorem dX7_keepAct_1 : decode cX7_keepAct 1 = .ok (.istore_n 1, 1) := by decide +kernel
theorem dX7_keepAct_2 : decode cX7_keepAct 2 = .ok (.iload_n 1, 1) := by decide +kernel
theorem dX7_keepAct_3 : decode cX7_keepAct 3 = .ok (.bipush 19, 2) := by decide +kernel
theorem dX7_keepAct_5 : decode cX7_keepAct 5 = .ok (.if_icmp .ge 29, 3) := by decide +kernel
theorem dX7_keepAct_8 : decode cX7_keepAct 8 = .ok (.aload_n 0, 1) := by decide +kernel
theorem dX7_keepAct_9 : decode cX7_keepAct 9 = .ok (.getfield 46, 3) := by decide +kernel
theorem dX7_keepAct_12 : decode cX7_keepAct 12 = .ok (.bipush 19, 2) := by decide +kernel
theorem dX7_keepAct_14 : decode cX7_keepAct 14 = .ok (.aload_n 0, 1) := by decide +kernel
theorem dX7_keepAct_15 : decode cX7_keepAct 15 = .ok (.getfield 178, 3) := by decide +kernel
theorem dX7_keepAct_18 : decode cX7_keepAct 18 = .ok (.imul, 1) := by decide +kernel
theorem dX7_keepAct_19 : decode cX7_keepAct 19 = .ok (.iload_n 1, 1) := by decide +kernel
theorem dX7_keepAct_20 : decode cX7_keepAct 20 = .ok (.iadd, 1) := by decide +kernel
theorem dX7_keepAct_21 : decode cX7_keepAct 21 = .ok (.aload_n 0, 1) := by decide +kernel
theorem dX7_keepAct_22 : decode cX7_keepAct 22 = .ok (.getfield 28, 3) := by decide +kernel
theorem dX7_keepAct_25 : decode cX7_keepAct 25 = .ok (.iload_n 1, 1) := by decide +kernel
theorem dX7_keepAct_26 : decode cX7_keepAct 26 = .ok (.iaload, 1) := by decide +kernel
theorem dX7_keepAct_27 : decode cX7_keepAct 27 = .ok (.iastore, 1) := by decide +kernel
theorem dX7_keepAct_28 : decode cX7_keepAct 28 = .ok (.iinc 1 1, 3) := by decide +kernel
theorem dX7_keepAct_31 : decode cX7_keepAct 31 = .ok (.goto (-29), 3) := by decide +kernel
theorem dX7_keepAct_34 : decode cX7_keepAct 34 = .ok (.aload_n 0, 1) := by decide +kernel
theorem dX7_keepAct_35 : decode cX7_keepAct 35 = .ok (.aload_n 0, 1) := by decide +kernel
theorem dX7_keepAct_36 : decode cX7_keepAct 36 = .ok (.getfield 178, 3) := by decide +kernel
theorem dX7_keepAct_39 : decode cX7_keepAct 39 = .ok (.iconst 1, 1) := by decide +kernel
theorem dX7_keepAct_40 : decode cX7_keepAct 40 = .ok (.iadd, 1) := by decide +kernel
theorem dX7_keepAct_41 : decode cX7_keepAct 41 = .ok (.bipush 14, 2) := by decide +kernel
theorem dX7_keepAct_43 : decode cX7_keepAct 43 = .ok (.irem, 1) := by decide +kernel
theorem dX7_keepAct_44 : decode cX7_keepAct 44 = .ok (.putfield 178, 3) := by decide +kernel
theorem dX7_keepAct_47 : decode cX7_keepAct 47 = .ok (.aload_n 0, 1) := by decide +kernel
theorem dX7_keepAct_48 : decode cX7_keepAct 48 = .ok (.aload_n 0, 1) := by decide +kernel
theorem dX7_keepAct_49 : decode cX7_keepAct 49 = .ok (.getfield 142, 3) := by decide +kernel
theorem dX7_keepAct_52 : decode cX7_keepAct 52 = .ok (.bipush 14, 2) := by decide +kernel
theorem dX7_keepAct_54 : decode cX7_keepAct 54 = .ok (.if_icmp .ge 12, 3) := by decide +kernel
theorem dX7_keepAct_57 : decode cX7_keepAct 57 = .ok (.aload_n 0, 1) := by decide +kernel
theorem dX7_keepAct_58 : decode cX7_keepAct 58 = .ok (.getfield 142, 3) := by decide +kernel
theorem dX7_keepAct_61 : decode cX7_keepAct 61 = .ok (.iconst 1, 1) := by decide +kernel
theorem dX7_keepAct_62 : decode cX7_keepAct 62 = .ok (.iadd, 1) := by decide +kernel
theorem dX7_keepAct_63 : decode cX7_keepAct 63 = .ok (.goto 5, 3) := by decide +kernel
theorem dX7_keepAct_66 : decode cX7_keepAct 66 = .ok (.bipush 14, 2) := by decide +kernel
theorem dX7_keepAct_68 : decode cX7_keepAct 68 = .ok (.putfield 142, 3) := by decide +kernel
theorem dX7_keepAct_71 : decode cX7_keepAct 71 = .ok (.return_, 1) := by decide +kernel
set_option maxRecDepth 20000 in
theorem ggX7_step_X7_keepAct : GoodIn wsX7_step wsX7_keepAct := goodIn_r _ [5, 6, 7, 8, 9, 54, 55, 56, 57, 58, 59, 60, 61, 62, 63, 64, 65, 66, 67, 68, 69, 70, 71, 72, 73, 74, 75, 76, 77, 78, 79, 80, 81, 82, 83, 84, 85, 86, 87, 88, 89, 90] (by decide +kernel) (by decide +kernel)
set_option maxRecDepth 20000 in
theorem gX7_step_X7_keepAct : GoodIn wsX7_step (wsV RX7 181 RX7 yX7_keepAct wsX7_keepAct) := goodIn_app (goodIn_of _ (by decide +kernel)) ggX7_step_X7_keepAct
set_option maxRecDepth 20000 in
theorem ggX7_step_X7_stepOn : GoodIn wsX7_step wsX7_stepOn := goodIn_r _ [13, 14, 15, 16, 4, 17, 8, 18, 19, 20, 21, 22, 23, 24, 25, 26, 27, 28, 29, 30, 31, 32, 33, 34, 35, 36, 37, 38, 39, 40, 41, 42, 43, 44, 45, 46, 47, 48, 49, 50, 51, 52, 53, 54, 55, 56, 57, 58, 59, 60, 61, 62, 63, 64, 65, 66, 67, 68, 69, 70, 71, 72, 73, 74, 75, 76, 77, 78, 79, 80, 81, 82, 83, 84, 85, 86, 87, 88, 89, 90] (by decide +kernel) (by decide +kernel)
set_option maxRecDepth 20000 in
theorem gX7_step_X7_stepOn : GoodIn wsX7_step (wsV RX7 184 RX7 yX7_stepOn wsX7_stepOn) := goodIn_app (goodIn_of _ (by decide +kernel)) ggX7_step_X7_stepOn
theorem dX7_step_0 : decode cX7_step 0 = .ok (.aload_n 0, 1) := by decide +kernel
theorem dX7_step_1 : decode cX7_step 1 = .ok (.invokevirtual 181, 3) := by decide +kernel
theorem dX7_step_4 : decode cX7_step 4 = .ok (.aload_n 0, 1) := by decide +kernel
theorem dX7_step_5 : decode cX7_step 5 = .ok (.iconst 0, 1) := by decide +kernel
theorem dX7_step_6 : decode cX7_step 6 = .ok (.invokevirtual 184, 3) := by decide +kernel
theorem dX7_step_9 : decode cX7_step 9 = .ok (.ireturn, 1) := by decide +kernel
set_option maxRecDepth 20000 in
theorem ggX7_shut_X7_isPipe : GoodIn wsX7_shut wsX7_isPipe := goodIn_r _ [6, 7, 8, 9, 5, 10, 18, 19, 20, 21, 22, 23, 24, 25, 26, 27, 28, 29, 30, 31, 32, 33, 34, 35, 36, 37, 38, 39, 40, 41, 42, 43, 44, 45, 46, 47, 48, 49, 50, 51, 52, 53, 54] (by decide +kernel) (by decide +kernel)
set_option maxRecDepth 20000 in
theorem gX7_shut_X7_isPipe : GoodIn wsX7_shut (wsV RX7 172 RX7 yX7_isPipe wsX7_isPipe) := goodIn_app (goodIn_of _ (by decide +kernel)) ggX7_shut_X7_isPipe
set_option maxRecDepth 20000 in
theorem ggX7_shut_X7_keepAct : GoodIn wsX7_shut wsX7_keepAct := goodIn_r _ [14, 15, 16, 1, 17, 18, 19, 20, 21, 22, 23, 24, 25, 26, 27, 28, 29, 30, 31, 32, 33, 34, 35, 36, 37, 38, 39, 40, 41, 42, 43, 44, 45, 46, 47, 48, 49, 50, 51, 52, 53, 54] (by decide +kernel) (by decide +kernel)
set_option maxRecDepth 20000 in
theorem gX7_shut_X7_keepAct : GoodIn wsX7_shut (wsV RX7 181 RX7 yX7_keepAct wsX7_keepAct) := goodIn_app (goodIn_of _ (by decide +kernel)) ggX7_shut_X7_keepAct
theorem dX7_shut_0 : decode cX7_shut 0 = .ok (.aload_n 0, 1) := by decide +kernel
theorem dX7_shut_1 : decode cX7_shut 1 = .ok (.iload_n 1, 1) := by decide +kernel
theorem dX7_shut_2 : decode cX7_shut 2 = .ok (.invokevirtual 172, 3) := by decide +kernel
theorem dX7_shut_5 : decode cX7_shut 5 = .ok (.ifCond .ne 5, 3) := by decide +kernel
theorem dX7_shut_8 : decode cX7_shut 8 = .ok (.iconst (-1), 1) := by decide +kernel
theorem dX7_shut_9 : decode cX7_shut 9 = .ok (.ireturn, 1) := by decide +kernel
theorem dX7_shut_10 : decode cX7_shut 10 = .ok (.aload_n 0, 1) := by decide +kernel
theorem dX7_shut_11 : decode cX7_shut 11 = .ok (.invokevirtual 181, 3) := by decide +kernel
theorem dX7_shut_14 : decode cX7_shut 14 = .ok (.aload_n 0, 1) := by decide +kernel
theorem dX7_shut_15 : decode cX7_shut 15 = .ok (.getfield 28, 3) := by decide +kernel
theorem dX7_shut_18 : decode cX7_shut 18 = .ok (.bipush 16, 2) := by decide +kernel
theorem dX7_shut_20 : decode cX7_shut 20 = .ok (.dup2, 1) := by decide +kernel
theorem dX7_shut_21 : decode cX7_shut 21 = .ok (.iaload, 1) := by decide +kernel
theorem dX7_shut_22 : decode cX7_shut 22 = .ok (.iconst 1, 1) := by decide +kernel
theorem dX7_shut_23 : decode cX7_shut 23 = .ok (.iload_n 1, 1) := by decide +kernel
theorem dX7_shut_24 : decode cX7_shut 24 = .ok (.ishl, 1) := by decide +kernel
theorem dX7_shut_25 : decode cX7_shut 25 = .ok (.ixor, 1) := by decide +kernel
theorem dX7_shut_26 : decode cX7_shut 26 = .ok (.iastore, 1) := by decide +kernel
theorem dX7_shut_27 : decode cX7_shut 27 = .ok (.aload_n 0, 1) := by decide +kernel
theorem dX7_shut_28 : decode cX7_shut 28 = .ok (.getfield 28, 3) := by decide +kernel
theorem dX7_shut_31 : decode cX7_shut 31 = .ok (.bipush 16, 2) := by decide +kernel
theorem dX7_shut_33 : decode cX7_shut 33 = .ok (.iaload, 1) := by decide +kernel
theorem dX7_shut_34 : decode cX7_shut 34 = .ok (.iload_n 1, 1) := by decide +kernel
theorem dX7_shut_35 : decode cX7_shut 35 = .ok (.ishr, 1) := by decide +kernel
theorem dX7_shut_36 : decode cX7_shut 36 = .ok (.iconst 1, 1) := by decide +kernel
theorem dX7_shut_37 : decode cX7_shut 37 = .ok (.iand, 1) := by decide +kernel
theorem dX7_shut_38 : decode cX7_shut 38 = .ok (.ireturn, 1) := by decide +kernel
set_option maxRecDepth 20000 in
theorem ggX7_seal_X7_isJoint : GoodIn wsX7_seal wsX7_isJoint := goodIn_r _ [7, 8, 9, 10, 6, 11, 19, 20, 21, 22, 23, 24, 25, 26, 27, 28, 29, 30, 31, 32, 33, 34, 35, 36, 37, 38, 39, 40, 41, 42, 43, 44, 45, 46, 47, 48, 49, 50, 51, 52, 53, 54, 55] (by decide +kernel) (by decide +kernel)
set_option maxRecDepth 20000 in
theorem gX7_seal_X7_isJoint : GoodIn wsX7_seal (wsV RX7 168 RX7 yX7_isJoint wsX7_isJoint) := goodIn_app (goodIn_of _ (by decide +kernel)) ggX7_seal_X7_isJoint
set_option maxRecDepth 20000 in
theorem ggX7_seal_X7_keepAct : GoodIn wsX7_seal wsX7_keepAct := goodIn_r _ [15, 16, 17, 2, 18, 19, 20, 21, 22, 23, 24, 25, 26, 27, 28, 29, 30, 31, 32, 33, 34, 35, 36, 37, 38, 39, 40, 41, 42, 43, 44, 45, 46, 47, 48, 49, 50, 51, 52, 53, 54, 55] (by decide +kernel) (by decide +kernel)
set_option maxRecDepth 20000 in
theorem gX7_seal_X7_keepAct : GoodIn wsX7_seal (wsV RX7 181 RX7 yX7_keepAct wsX7_keepAct) := goodIn_app (goodIn_of _ (by decide +kernel)) ggX7_seal_X7_keepAct
theorem dX7_seal_0 : decode cX7_seal 0 = .ok (.aload_n 0, 1) := by decide +kernel
theorem dX7_seal_1 : decode cX7_seal 1 = .ok (.iload_n 1, 1) := by decide +kernel
theorem dX7_seal_2 : decode cX7_seal 2 = .ok (.invokevirtual 168, 3) := by decide +kernel
theorem dX7_seal_5 : decode cX7_seal 5 = .ok (.ifCond .ne 5, 3) := by decide +kernel
theorem dX7_seal_8 : decode cX7_seal 8 = .ok (.iconst (-1), 1) := by decide +kernel
theorem dX7_seal_9 : decode cX7_seal 9 = .ok (.ireturn, 1) := by decide +kernel
theorem dX7_seal_10 : decode cX7_seal 10 = .ok (.aload_n 0, 1) := by decide +kernel
theorem dX7_seal_11 : decode cX7_seal 11 = .ok (.getfield 13, 3) := by decide +kernel
theorem dX7_seal_14 : decode cX7_seal 14 = .ok (.iload_n 1, 1) := by decide +kernel
theorem dX7_seal_15 : decode cX7_seal 15 = .ok (.iaload, 1) := by decide +kernel
theorem dX7_seal_16 : decode cX7_seal 16 = .ok (.ifCond .ne 6, 3) := by decide +kernel
theorem dX7_seal_19 : decode cX7_seal 19 = .ok (.bipush (-3), 2) := by decide +kernel
theorem dX7_seal_21 : decode cX7_seal 21 = .ok (.ireturn, 1) := by decide +kernel
theorem dX7_seal_22 : decode cX7_seal 22 = .ok (.aload_n 0, 1) := by decide +kernel
theorem dX7_seal_23 : decode cX7_seal 23 = .ok (.invokevirtual 181, 3) := by decide +kernel
theorem dX7_seal_26 : decode cX7_seal 26 = .ok (.aload_n 0, 1) := by decide +kernel
theorem dX7_seal_27 : decode cX7_seal 27 = .ok (.getfield 28, 3) := by decide +kernel
theorem dX7_seal_30 : decode cX7_seal 30 = .ok (.bipush 17, 2) := by decide +kernel
theorem dX7_seal_32 : decode cX7_seal 32 = .ok (.dup2, 1) := by decide +kernel
theorem dX7_seal_33 : decode cX7_seal 33 = .ok (.iaload, 1) := by decide +kernel
theorem dX7_seal_34 : decode cX7_seal 34 = .ok (.iconst 1, 1) := by decide +kernel
theorem dX7_seal_35 : decode cX7_seal 35 = .ok (.iload_n 1, 1) := by decide +kernel
theorem dX7_seal_36 : decode cX7_seal 36 = .ok (.ishl, 1) := by decide +kernel
theorem dX7_seal_37 : decode cX7_seal 37 = .ok (.ixor, 1) := by decide +kernel
theorem dX7_seal_38 : decode cX7_seal 38 = .ok (.iastore, 1) := by decide +kernel
theorem dX7_seal_39 : decode cX7_seal 39 = .ok (.aload_n 0, 1) := by decide +kernel
theorem dX7_seal_40 : decode cX7_seal 40 = .ok (.getfield 28, 3) := by decide +kernel
theorem dX7_seal_43 : decode cX7_seal 43 = .ok (.bipush 17, 2) := by decide +kernel
theorem dX7_seal_45 : decode cX7_seal 45 = .ok (.iaload, 1) := by decide +kernel
theorem dX7_seal_46 : decode cX7_seal 46 = .ok (.iload_n 1, 1) := by decide +kernel
theorem dX7_seal_47 : decode cX7_seal 47 = .ok (.ishr, 1) := by decide +kernel
theorem dX7_seal_48 : decode cX7_seal 48 = .ok (.iconst 1, 1) := by decide +kernel
theorem dX7_seal_49 : decode cX7_seal 49 = .ok (.iand, 1) := by decide +kernel
theorem dX7_seal_50 : decode cX7_seal 50 = .ok (.ireturn, 1) := by decide +kernel
theorem dX7_callOn_0 : decode cX7_callOn 0 = .ok (.aload_n 0, 1) := by decide +kernel
theorem dX7_callOn_1 : decode cX7_callOn 1 = .ok (.getfield 28, 3) := by decide +kernel
theorem dX7_callOn_4 : decode cX7_callOn 4 = .ok (.bipush 19, 2) := by decide +kernel
theorem dX7_callOn_6 : decode cX7_callOn 6 = .ok (.iload_n 1, 1) := by decide +kernel
theorem dX7_callOn_7 : decode cX7_callOn 7 = .ok (.imul, 1) := by decide +kernel
theorem dX7_callOn_8 : decode cX7_callOn 8 = .ok (.iconst 4, 1) := by decide +kernel
theorem dX7_callOn_9 : decode cX7_callOn 9 = .ok (.iadd, 1) := by decide +kernel
theorem dX7_callOn_10 : decode cX7_callOn 10 = .ok (.iload_n 2, 1) := by decide +kernel
theorem dX7_callOn_11 : decode cX7_callOn 11 = .ok (.iadd, 1) := by decide +kernel
theorem dX7_callOn_12 : decode cX7_callOn 12 = .ok (.bipush (-9), 2) := by decide +kernel
theorem dX7_callOn_14 : decode cX7_callOn 14 = .ok (.iastore, 1) := by decide +kernel
theorem dX7_callOn_15 : decode cX7_callOn 15 = .ok (.aload_n 0, 1) := by decide +kernel
theorem dX7_callOn_16 : decode cX7_callOn 16 = .ok (.getfield 28, 3) := by decide +kernel
theorem dX7_callOn_19 : decode cX7_callOn 19 = .ok (.bipush 19, 2) := by decide +kernel
theorem dX7_callOn_21 : decode cX7_callOn 21 = .ok (.iload_n 1, 1) := by decide +kernel
theorem dX7_callOn_22 : decode cX7_callOn 22 = .ok (.imul, 1) := by decide +kernel
theorem dX7_callOn_23 : decode cX7_callOn 23 = .ok (.bipush 8, 2) := by decide +kernel
theorem dX7_callOn_25 : decode cX7_callOn 25 = .ok (.iadd, 1) := by decide +kernel
theorem dX7_callOn_26 : decode cX7_callOn 26 = .ok (.iload_n 2, 1) := by decide +kernel
theorem dX7_callOn_27 : decode cX7_callOn 27 = .ok (.iadd, 1) := by decide +kernel
theorem dX7_callOn_28 : decode cX7_callOn 28 = .ok (.iconst 0, 1) := by decide +kernel
theorem dX7_callOn_29 : decode cX7_callOn 29 = .ok (.iastore, 1) := by decide +kernel
theorem dX7_callOn_30 : decode cX7_callOn 30 = .ok (.return_, 1) := by decide +kernel
set_option maxRecDepth 20000 in
theorem ggX7_call_X7_isWalker : GoodIn wsX7_call wsX7_isWalker := goodIn_r _ [6, 7, 8, 9, 5, 10, 26, 27, 28, 29, 30, 31, 32, 33, 34, 35, 36, 37, 38, 39, 40, 41, 42, 43, 44, 45, 46, 47, 48, 49, 50, 51, 52, 53, 54, 55, 56, 57, 58, 59, 60, 61, 62] (by decide +kernel) (by decide +kernel)
set_option maxRecDepth 20000 in
theorem gX7_call_X7_isWalker : GoodIn wsX7_call (wsV RX7 175 RX7 yX7_isWalker wsX7_isWalker) := goodIn_app (goodIn_of _ (by decide +kernel)) ggX7_call_X7_isWalker
set_option maxRecDepth 20000 in
theorem ggX7_call_X7_isOut : GoodIn wsX7_call wsX7_isOut := goodIn_r _ [14, 1, 26, 27, 28, 29, 30, 31, 32, 33, 34, 35, 36, 37, 38, 39, 40, 41, 42, 43, 44, 45, 46, 47, 48, 49, 50, 51, 52, 53, 54, 55, 56, 57, 58, 59, 60, 61, 62] (by decide +kernel) (by decide +kernel)
set_option maxRecDepth 20000 in
theorem gX7_call_X7_isOut : GoodIn wsX7_call (wsV RX7 156 RX7 yX7_isOut wsX7_isOut) := goodIn_app (goodIn_of _ (by decide +kernel)) ggX7_call_X7_isOut
set_option maxRecDepth 20000 in
theorem ggX7_call_X7_keepAct : GoodIn wsX7_call wsX7_keepAct := goodIn_r _ [18, 19, 20, 1, 21, 26, 27, 28, 29, 30, 31, 32, 33, 34, 35, 36, 37, 38, 39, 40, 41, 42, 43, 44, 45, 46, 47, 48, 49, 50, 51, 52, 53, 54, 55, 56, 57, 58, 59, 60, 61, 62] (by decide +kernel) (by decide +kernel)
set_option maxRecDepth 20000 in
theorem gX7_call_X7_keepAct : GoodIn wsX7_call (wsV RX7 181 RX7 yX7_keepAct wsX7_keepAct) := goodIn_app (goodIn_of _ (by decide +kernel)) ggX7_call_X7_keepAct
set_option maxRecDepth 20000 in
theorem ggX7_call_X7_callOn : GoodIn wsX7_call wsX7_callOn := goodIn_r _ [25, 1, 26, 27, 28, 29, 30, 31, 32, 33, 34, 35, 36, 37, 38, 39, 40, 41, 42, 43, 44, 45, 46, 47, 48, 49, 50, 51, 52, 53, 54, 55, 56, 57, 58, 59, 60, 61, 62] (by decide +kernel) (by decide +kernel)
set_option maxRecDepth 20000 in
theorem gX7_call_X7_callOn : GoodIn wsX7_call (wsV RX7 187 RX7 yX7_callOn wsX7_callOn) := goodIn_app (goodIn_of _ (by decide +kernel)) ggX7_call_X7_callOn
theorem dX7_call_0 : decode cX7_call 0 = .ok (.aload_n 0, 1) := by decide +kernel
theorem dX7_call_1 : decode cX7_call 1 = .ok (.iload_n 1, 1) := by decide +kernel
theorem dX7_call_2 : decode cX7_call 2 = .ok (.invokevirtual 175, 3) := by decide +kernel
theorem dX7_call_5 : decode cX7_call 5 = .ok (.ifCond .ne 5, 3) := by decide +kernel
theorem dX7_call_8 : decode cX7_call 8 = .ok (.iconst (-1), 1) := by decide +kernel
theorem dX7_call_9 : decode cX7_call 9 = .ok (.ireturn, 1) := by decide +kernel
theorem dX7_call_10 : decode cX7_call 10 = .ok (.aload_n 0, 1) := by decide +kernel
theorem dX7_call_11 : decode cX7_call 11 = .ok (.iconst 0, 1) := by decide +kernel
theorem dX7_call_12 : decode cX7_call 12 = .ok (.iload_n 1, 1) := by decide +kernel
theorem dX7_call_13 : decode cX7_call 13 = .ok (.invokevirtual 156, 3) := by decide +kernel
theorem dX7_call_16 : decode cX7_call 16 = .ok (.ifCond .eq 6, 3) := by decide +kernel
theorem dX7_call_19 : decode cX7_call 19 = .ok (.bipush (-3), 2) := by decide +kernel
theorem dX7_call_21 : decode cX7_call 21 = .ok (.ireturn, 1) := by decide +kernel
theorem dX7_call_22 : decode cX7_call 22 = .ok (.aload_n 0, 1) := by decide +kernel
theorem dX7_call_23 : decode cX7_call 23 = .ok (.invokevirtual 181, 3) := by decide +kernel
theorem dX7_call_26 : decode cX7_call 26 = .ok (.aload_n 0, 1) := by decide +kernel
theorem dX7_call_27 : decode cX7_call 27 = .ok (.getfield 28, 3) := by decide +kernel
theorem dX7_call_30 : decode cX7_call 30 = .ok (.bipush 8, 2) := by decide +kernel
theorem dX7_call_32 : decode cX7_call 32 = .ok (.iload_n 1, 1) := by decide +kernel
theorem dX7_call_33 : decode cX7_call 33 = .ok (.iadd, 1) := by decide +kernel
theorem dX7_call_34 : decode cX7_call 34 = .ok (.iaload, 1) := by decide +kernel
theorem dX7_call_35 : decode cX7_call 35 = .ok (.istore_n 2, 1) := by decide +kernel
theorem dX7_call_36 : decode cX7_call 36 = .ok (.aload_n 0, 1) := by decide +kernel
theorem dX7_call_37 : decode cX7_call 37 = .ok (.iconst 0, 1) := by decide +kernel
theorem dX7_call_38 : decode cX7_call 38 = .ok (.iload_n 1, 1) := by decide +kernel
theorem dX7_call_39 : decode cX7_call 39 = .ok (.invokevirtual 187, 3) := by decide +kernel
theorem dX7_call_42 : decode cX7_call 42 = .ok (.iload_n 2, 1) := by decide +kernel
theorem dX7_call_43 : decode cX7_call 43 = .ok (.ireturn, 1) := by decide +kernel
theorem dX7_undo_0 : decode cX7_undo 0 = .ok (.aload_n 0, 1) := by decide +kernel
theorem dX7_undo_1 : decode cX7_undo 1 = .ok (.getfield 142, 3) := by decide +kernel
theorem dX7_undo_4 : decode cX7_undo 4 = .ok (.ifCond .ne 6, 3) := by decide +kernel
theorem dX7_undo_7 : decode cX7_undo 7 = .ok (.bipush (-3), 2) := by decide +kernel
theorem dX7_undo_9 : decode cX7_undo 9 = .ok (.ireturn, 1) := by decide +kernel
theorem dX7_undo_10 : decode cX7_undo 10 = .ok (.aload_n 0, 1) := by decide +kernel
theorem dX7_undo_11 : decode cX7_undo 11 = .ok (.dup, 1) := by decide +kernel
theorem dX7_undo_12 : decode cX7_undo 12 = .ok (.getfield 142, 3) := by decide +kernel
theorem dX7_undo_15 : decode cX7_undo 15 = .ok (.iconst 1, 1) := by decide +kernel
theorem dX7_undo_16 : decode cX7_undo 16 = .ok (.isub, 1) := by decide +kernel
theorem dX7_undo_17 : decode cX7_undo 17 = .ok (.putfield 142, 3) := by decide +kernel
theorem dX7_undo_20 : decode cX7_undo 20 = .ok (.aload_n 0, 1) := by decide +kernel
theorem dX7_undo_21 : decode cX7_undo 21 = .ok (.aload_n 0, 1) := by decide +kernel
theorem dX7_undo_22 : decode cX7_undo 22 = .ok (.getfield 178, 3) := by decide +kernel
theorem dX7_undo_25 : decode cX7_undo 25 = .ok (.bipush 13, 2) := by decide +kernel
theorem dX7_undo_27 : decode cX7_undo 27 = .ok (.iadd, 1) := by decide +kernel
theorem dX7_undo_28 : decode cX7_undo 28 = .ok (.bipush 14, 2) := by decide +kernel
theorem dX7_undo_30 : decode cX7_undo 30 = .ok (.irem, 1) := by decide +kernel
theorem dX7_undo_31 : decode cX7_undo 31 = .ok (.putfield 178, 3) := by decide +kernel
theorem dX7_undo_34 : decode cX7_undo 34 = .ok (.iconst 0, 1) := by decide +kernel
theorem dX7_undo_35 : decode cX7_undo 35 = .ok (.istore_n 1, 1) := by decide +kernel
theorem dX7_undo_36 : decode cX7_undo 36 = .ok (.iload_n 1, 1) := by decide +kernel
theorem dX7_undo_37 : decode cX7_undo 37 = .ok (.bipush 19, 2) := by decide +kernel
theorem dX7_undo_39 : decode cX7_undo 39 = .ok (.if_icmp .ge 29, 3) := by decide +kernel
theorem dX7_undo_42 : decode cX7_undo 42 = .ok (.aload_n 0, 1) := by decide +kernel
theorem dX7_undo_43 : decode cX7_undo 43 = .ok (.getfield 28, 3) := by decide +kernel
theorem dX7_undo_46 : decode cX7_undo 46 = .ok (.iload_n 1, 1) := by decide +kernel
theorem dX7_undo_47 : decode cX7_undo 47 = .ok (.aload_n 0, 1) := by decide +kernel
theorem dX7_undo_48 : decode cX7_undo 48 = .ok (.getfield 46, 3) := by decide +kernel
theorem dX7_undo_51 : decode cX7_undo 51 = .ok (.bipush 19, 2) := by decide +kernel
theorem dX7_undo_53 : decode cX7_undo 53 = .ok (.aload_n 0, 1) := by decide +kernel
theorem dX7_undo_54 : decode cX7_undo 54 = .ok (.getfield 178, 3) := by decide +kernel
theorem dX7_undo_57 : decode cX7_undo 57 = .ok (.imul, 1) := by decide +kernel
theorem dX7_undo_58 : decode cX7_undo 58 = .ok (.iload_n 1, 1) := by decide +kernel
theorem dX7_undo_59 : decode cX7_undo 59 = .ok (.iadd, 1) := by decide +kernel
theorem dX7_undo_60 : decode cX7_undo 60 = .ok (.iaload, 1) := by decide +kernel
theorem dX7_undo_61 : decode cX7_undo 61 = .ok (.iastore, 1) := by decide +kernel
theorem dX7_undo_62 : decode cX7_undo 62 = .ok (.iinc 1 1, 3) := by decide +kernel
theorem dX7_undo_65 : decode cX7_undo 65 = .ok (.goto (-29), 3) := by decide +kernel
theorem dX7_undo_68 : decode cX7_undo 68 = .ok (.aload_n 0, 1) := by decide +kernel
theorem dX7_undo_69 : decode cX7_undo 69 = .ok (.getfield 142, 3) := by decide +kernel
theorem dX7_undo_72 : decode cX7_undo 72 = .ok (.ireturn, 1) := by decide +kernel
theorem dX7_layTrial_0 : decode cX7_layTrial 0 = .ok (.iconst 0, 1) := by decide +kernel
theorem dX7_layTrial_1 : decode cX7_layTrial 1 = .ok (.istore_n 1, 1) := by decide +kernel
theorem dX7_layTrial_2 : decode cX7_layTrial 2 = .ok (.iload_n 1, 1) := by decide +kernel
theorem dX7_layTrial_3 : decode cX7_layTrial 3 = .ok (.bipush 19, 2) := by decide +kernel
theorem dX7_layTrial_5 : decode cX7_layTrial 5 = .ok (.if_icmp .ge 24, 3) := by decide +kernel
theorem dX7_layTrial_8 : decode cX7_layTrial 8 = .ok (.aload_n 0, 1) := by decide +kernel
theorem dX7_layTrial_9 : decode cX7_layTrial 9 = .ok (.getfield 28, 3) := by decide +kernel
theorem dX7_layTrial_12 : decode cX7_layTrial 12 = .ok (.bipush 19, 2) := by decide +kernel
theorem dX7_layTrial_14 : decode cX7_layTrial 14 = .ok (.iload_n 1, 1) := by decide +kernel
theorem dX7_layTrial_15 : decode cX7_layTrial 15 = .ok (.iadd, 1) := by decide +kernel
theorem dX7_layTrial_16 : decode cX7_layTrial 16 = .ok (.aload_n 0, 1) := by decide +kernel
theorem dX7_layTrial_17 : decode cX7_layTrial 17 = .ok (.getfield 28, 3) := by decide +kernel
theorem dX7_layTrial_20 : decode cX7_layTrial 20 = .ok (.iload_n 1, 1) := by decide +kernel
theorem dX7_layTrial_21 : decode cX7_layTrial 21 = .ok (.iaload, 1) := by decide +kernel
theorem dX7_layTrial_22 : decode cX7_layTrial 22 = .ok (.iastore, 1) := by decide +kernel
theorem dX7_layTrial_23 : decode cX7_layTrial 23 = .ok (.iinc 1 1, 3) := by decide +kernel
theorem dX7_layTrial_26 : decode cX7_layTrial 26 = .ok (.goto (-24), 3) := by decide +kernel
theorem dX7_layTrial_29 : decode cX7_layTrial 29 = .ok (.return_, 1) := by decide +kernel
set_option maxRecDepth 20000 in
theorem ggX7_goTrial_X7_stepOn : GoodIn wsX7_goTrial wsX7_stepOn := goodIn_r _ [5, 6, 7, 8, 4, 9, 10, 11, 12, 13, 14, 15, 16, 17, 18, 19, 20, 21, 22, 23, 24, 25, 26, 27, 28, 29, 30, 31, 32, 33, 34, 35, 36, 37, 38, 39, 40, 41, 42, 43, 44, 45, 46, 47, 48, 49, 50, 51, 52, 53, 54, 55, 56, 57, 58, 59, 60, 61, 62, 63, 64, 65, 66, 67, 68, 69, 70, 71, 72, 73, 74, 75, 76, 77, 78, 79, 80, 81, 82, 83] (by decide +kernel) (by decide +kernel)
set_option maxRecDepth 20000 in
theorem gX7_goTrial_X7_stepOn : GoodIn wsX7_goTrial (wsV RX7 184 RX7 yX7_stepOn wsX7_stepOn) := goodIn_app (goodIn_of _ (by decide +kernel)) ggX7_goTrial_X7_stepOn
theorem dX7_goTrial_0 : decode cX7_goTrial 0 = .ok (.iconst 0, 1) := by decide +kernel
theorem dX7_goTrial_1 : decode cX7_goTrial 1 = .ok (.istore_n 2, 1) := by decide +kernel
theorem dX7_goTrial_2 : decode cX7_goTrial 2 = .ok (.iload_n 2, 1) := by decide +kernel
theorem dX7_goTrial_3 : decode cX7_goTrial 3 = .ok (.iload_n 1, 1) := by decide +kernel
theorem dX7_goTrial_4 : decode cX7_goTrial 4 = .ok (.if_icmp .ge 15, 3) := by decide +kernel
theorem dX7_goTrial_7 : decode cX7_goTrial 7 = .ok (.aload_n 0, 1) := by decide +kernel
theorem dX7_goTrial_8 : decode cX7_goTrial 8 = .ok (.iconst 1, 1) := by decide +kernel
theorem dX7_goTrial_9 : decode cX7_goTrial 9 = .ok (.invokevirtual 184, 3) := by decide +kernel
theorem dX7_goTrial_12 : decode cX7_goTrial 12 = .ok (.pop, 1) := by decide +kernel
theorem dX7_goTrial_13 : decode cX7_goTrial 13 = .ok (.iinc 2 1, 3) := by decide +kernel
theorem dX7_goTrial_16 : decode cX7_goTrial 16 = .ok (.goto (-14), 3) := by decide +kernel
theorem dX7_goTrial_19 : decode cX7_goTrial 19 = .ok (.return_, 1) := by decide +kernel
set_option maxRecDepth 20000 in
theorem ggX7_ahead_X7_in : GoodIn wsX7_ahead wsX7_in := goodIn_r _ [5] (by decide +kernel) (by decide +kernel)
set_option maxRecDepth 20000 in
theorem gX7_ahead_X7_in : GoodIn wsX7_ahead (va_wsS RX7 77 yX7_in wsX7_in) := goodIn_app (goodIn_of _ (by decide +kernel)) ggX7_ahead_X7_in
set_option maxRecDepth 20000 in
theorem ggX7_ahead_X7_layTrial : GoodIn wsX7_ahead wsX7_layTrial := goodIn_r _ [9, 10, 64, 65, 66, 67, 68, 69, 70, 71, 72, 73, 74, 75, 76, 77, 78, 79, 80, 81, 82, 83, 84, 85, 86, 87, 88, 89, 90, 91, 92, 93, 94, 95, 96, 97, 98, 99, 100] (by decide +kernel) (by decide +kernel)
set_option maxRecDepth 20000 in
theorem gX7_ahead_X7_layTrial : GoodIn wsX7_ahead (wsV RX7 193 RX7 yX7_layTrial wsX7_layTrial) := goodIn_app (goodIn_of _ (by decide +kernel)) ggX7_ahead_X7_layTrial
set_option maxRecDepth 20000 in
theorem ggX7_ahead_X7_goTrial : GoodIn wsX7_ahead wsX7_goTrial := goodIn_r _ [14, 15, 16, 17, 4, 18, 19, 20, 21, 22, 10, 23, 24, 25, 26, 27, 28, 29, 30, 31, 32, 33, 34, 35, 36, 37, 38, 39, 40, 41, 42, 43, 44, 45, 46, 47, 48, 49, 50, 51, 52, 53, 54, 55, 56, 57, 58, 64, 65, 66, 67, 68, 69, 70, 71, 72, 73, 74, 75, 76, 77, 78, 79, 80, 81, 82, 83, 84, 85, 86, 87, 88, 89, 90, 91, 92, 93, 94, 95, 96, 97, 98, 99, 100] (by decide +kernel) (by decide +kernel)
set_option maxRecDepth 20000 in
theorem gX7_ahead_X7_goTrial : GoodIn wsX7_ahead (wsV RX7 196 RX7 yX7_goTrial wsX7_goTrial) := goodIn_app (goodIn_of _ (by decide +kernel)) ggX7_ahead_X7_goTrial
set_option maxRecDepth 20000 in
theorem ggX7_ahead_X7_outOn : GoodIn wsX7_ahead wsX7_outOn := goodIn_r _ [62, 29, 10, 63, 33, 34, 35, 4, 36, 64, 65, 66, 67, 68, 69, 70, 71, 72, 73, 74, 75, 76, 77, 78, 79, 80, 81, 82, 83, 84, 85, 86, 87, 88, 89, 90, 91, 92, 93, 94, 95, 96, 97, 98, 99, 100] (by decide +kernel) (by decide +kernel)
set_option maxRecDepth 20000 in
theorem gX7_ahead_X7_outOn : GoodIn wsX7_ahead (wsV RX7 199 RX7 yX7_outOn wsX7_outOn) := goodIn_app (goodIn_of _ (by decide +kernel)) ggX7_ahead_X7_outOn
theorem dX7_ahead_0 : decode cX7_ahead 0 = .ok (.iload_n 1, 1) := by decide +kernel
theorem dX7_ahead_1 : decode cX7_ahead 1 = .ok (.i2l, 1) := by decide +kernel
theorem dX7_ahead_2 : decode cX7_ahead 2 = .ok (.lconst 0, 1) := by decide +kernel
theorem dX7_ahead_3 : decode cX7_ahead 3 = .ok (.ldc2_w 191, 3) := by decide +kernel
theorem dX7_ahead_6 : decode cX7_ahead 6 = .ok (.invokestatic 77, 3) := by decide +kernel
theorem dX7_ahead_9 : decode cX7_ahead 9 = .ok (.ifCond .eq 13, 3) := by decide +kernel
theorem dX7_ahead_12 : decode cX7_ahead 12 = .ok (.iload_n 2, 1) := by decide +kernel
theorem dX7_ahead_13 : decode cX7_ahead 13 = .ok (.i2l, 1) := by decide +kernel
theorem dX7_ahead_14 : decode cX7_ahead 14 = .ok (.lconst 0, 1) := by decide +kernel
theorem dX7_ahead_15 : decode cX7_ahead 15 = .ok (.lconst 1, 1) := by decide +kernel
theorem dX7_ahead_16 : decode cX7_ahead 16 = .ok (.invokestatic 77, 3) := by decide +kernel
theorem dX7_ahead_19 : decode cX7_ahead 19 = .ok (.ifCond .ne 6, 3) := by decide +kernel
theorem dX7_ahead_22 : decode cX7_ahead 22 = .ok (.bipush (-2), 2) := by decide +kernel
theorem dX7_ahead_24 : decode cX7_ahead 24 = .ok (.ireturn, 1) := by decide +kernel
theorem dX7_ahead_25 : decode cX7_ahead 25 = .ok (.aload_n 0, 1) := by decide +kernel
theorem dX7_ahead_26 : decode cX7_ahead 26 = .ok (.invokevirtual 193, 3) := by decide +kernel
theorem dX7_ahead_29 : decode cX7_ahead 29 = .ok (.aload_n 0, 1) := by decide +kernel
theorem dX7_ahead_30 : decode cX7_ahead 30 = .ok (.iload_n 1, 1) := by decide +kernel
theorem dX7_ahead_31 : decode cX7_ahead 31 = .ok (.invokevirtual 196, 3) := by decide +kernel
theorem dX7_ahead_34 : decode cX7_ahead 34 = .ok (.aload_n 0, 1) := by decide +kernel
theorem dX7_ahead_35 : decode cX7_ahead 35 = .ok (.iconst 1, 1) := by decide +kernel
theorem dX7_ahead_36 : decode cX7_ahead 36 = .ok (.iload_n 2, 1) := by decide +kernel
theorem dX7_ahead_37 : decode cX7_ahead 37 = .ok (.iconst 1, 1) := by decide +kernel
theorem dX7_ahead_38 : decode cX7_ahead 38 = .ok (.if_icmp .ne 7, 3) := by decide +kernel
theorem dX7_ahead_41 : decode cX7_ahead 41 = .ok (.iconst 1, 1) := by decide +kernel
theorem dX7_ahead_42 : decode cX7_ahead 42 = .ok (.goto 4, 3) := by decide +kernel
theorem dX7_ahead_45 : decode cX7_ahead 45 = .ok (.iconst 0, 1) := by decide +kernel
theorem dX7_ahead_46 : decode cX7_ahead 46 = .ok (.invokevirtual 199, 3) := by decide +kernel
theorem dX7_ahead_49 : decode cX7_ahead 49 = .ok (.ireturn, 1) := by decide +kernel
set_option maxRecDepth 20000 in
theorem ggX7_comes_X7_isWalker : GoodIn wsX7_comes wsX7_isWalker := goodIn_r _ [6, 7, 8, 9, 5, 10, 58, 59, 60, 61, 62, 63, 64, 65, 66, 67, 68, 69, 70, 71, 72, 73, 74, 75, 76, 77, 78, 79, 80, 81, 82, 83, 84, 85, 86, 87, 88, 89, 90, 91, 92, 93, 94] (by decide +kernel) (by decide +kernel)
set_option maxRecDepth 20000 in
theorem gX7_comes_X7_isWalker : GoodIn wsX7_comes (wsV RX7 175 RX7 yX7_isWalker wsX7_isWalker) := goodIn_app (goodIn_of _ (by decide +kernel)) ggX7_comes_X7_isWalker
set_option maxRecDepth 20000 in
theorem ggX7_comes_X7_in : GoodIn wsX7_comes wsX7_in := goodIn_r _ [10] (by decide +kernel) (by decide +kernel)
set_option maxRecDepth 20000 in
theorem gX7_comes_X7_in : GoodIn wsX7_comes (va_wsS RX7 77 yX7_in wsX7_in) := goodIn_app (goodIn_of _ (by decide +kernel)) ggX7_comes_X7_in
set_option maxRecDepth 20000 in
theorem ggX7_comes_X7_layTrial : GoodIn wsX7_comes wsX7_layTrial := goodIn_r _ [14, 1, 58, 59, 60, 61, 62, 63, 64, 65, 66, 67, 68, 69, 70, 71, 72, 73, 74, 75, 76, 77, 78, 79, 80, 81, 82, 83, 84, 85, 86, 87, 88, 89, 90, 91, 92, 93, 94] (by decide +kernel) (by decide +kernel)
set_option maxRecDepth 20000 in
theorem gX7_comes_X7_layTrial : GoodIn wsX7_comes (wsV RX7 193 RX7 yX7_layTrial wsX7_layTrial) := goodIn_app (goodIn_of _ (by decide +kernel)) ggX7_comes_X7_layTrial
set_option maxRecDepth 20000 in
theorem ggX7_comes_X7_isOut : GoodIn wsX7_comes wsX7_isOut := goodIn_r _ [18, 1, 58, 59, 60, 61, 62, 63, 64, 65, 66, 67, 68, 69, 70, 71, 72, 73, 74, 75, 76, 77, 78, 79, 80, 81, 82, 83, 84, 85, 86, 87, 88, 89, 90, 91, 92, 93, 94] (by decide +kernel) (by decide +kernel)
set_option maxRecDepth 20000 in
theorem gX7_comes_X7_isOut : GoodIn wsX7_comes (wsV RX7 156 RX7 yX7_isOut wsX7_isOut) := goodIn_app (goodIn_of _ (by decide +kernel)) ggX7_comes_X7_isOut
set_option maxRecDepth 20000 in
theorem ggX7_comes_X7_stepOn : GoodIn wsX7_comes wsX7_stepOn := goodIn_r _ [22, 23, 24, 25, 5, 26, 1, 27, 28, 29, 30, 31, 32, 7, 33, 34, 35, 15, 16, 17, 18, 36, 37, 38, 39, 40, 41, 42, 43, 44, 45, 46, 47, 48, 49, 50, 51, 52, 53, 54, 55, 56, 57, 58, 59, 60, 61, 62, 63, 64, 65, 66, 67, 68, 69, 70, 71, 72, 73, 74, 75, 76, 77, 78, 79, 80, 81, 82, 83, 84, 85, 86, 87, 88, 89, 90, 91, 92, 93, 94] (by decide +kernel) (by decide +kernel)
set_option maxRecDepth 20000 in
theorem gX7_comes_X7_stepOn : GoodIn wsX7_comes (wsV RX7 184 RX7 yX7_stepOn wsX7_stepOn) := goodIn_app (goodIn_of _ (by decide +kernel)) ggX7_comes_X7_stepOn
theorem dX7_comes_0 : decode cX7_comes 0 = .ok (.aload_n 0, 1) := by decide +kernel
theorem dX7_comes_1 : decode cX7_comes 1 = .ok (.iload_n 1, 1) := by decide +kernel
theorem dX7_comes_2 : decode cX7_comes 2 = .ok (.invokevirtual 175, 3) := by decide +kernel
theorem dX7_comes_5 : decode cX7_comes 5 = .ok (.ifCond .ne 5, 3) := by decide +kernel
theorem dX7_comes_8 : decode cX7_comes 8 = .ok (.iconst (-1), 1) := by decide +kernel
theorem dX7_comes_9 : decode cX7_comes 9 = .ok (.ireturn, 1) := by decide +kernel
theorem dX7_comes_10 : decode cX7_comes 10 = .ok (.iload_n 2, 1) := by decide +kernel
theorem dX7_comes_11 : decode cX7_comes 11 = .ok (.i2l, 1) := by decide +kernel
theorem dX7_comes_12 : decode cX7_comes 12 = .ok (.lconst 0, 1) := by decide +kernel
theorem dX7_comes_13 : decode cX7_comes 13 = .ok (.lconst 1, 1) := by decide +kernel
theorem dX7_comes_14 : decode cX7_comes 14 = .ok (.invokestatic 77, 3) := by decide +kernel
theorem dX7_comes_17 : decode cX7_comes 17 = .ok (.ifCond .ne 6, 3) := by decide +kernel
theorem dX7_comes_20 : decode cX7_comes 20 = .ok (.bipush (-2), 2) := by decide +kernel
theorem dX7_comes_22 : decode cX7_comes 22 = .ok (.ireturn, 1) := by decide +kernel
theorem dX7_comes_23 : decode cX7_comes 23 = .ok (.aload_n 0, 1) := by decide +kernel
theorem dX7_comes_24 : decode cX7_comes 24 = .ok (.invokevirtual 193, 3) := by decide +kernel
theorem dX7_comes_27 : decode cX7_comes 27 = .ok (.iconst 0, 1) := by decide +kernel
theorem dX7_comes_28 : decode cX7_comes 28 = .ok (.istore_n 3, 1) := by decide +kernel
theorem dX7_comes_29 : decode cX7_comes 29 = .ok (.iload_n 3, 1) := by decide +kernel
theorem dX7_comes_30 : decode cX7_comes 30 = .ok (.bipush 40, 2) := by decide +kernel
theorem dX7_comes_32 : decode cX7_comes 32 = .ok (.if_icmp .gt 42, 3) := by decide +kernel
theorem dX7_comes_35 : decode cX7_comes 35 = .ok (.aload_n 0, 1) := by decide +kernel
theorem dX7_comes_36 : decode cX7_comes 36 = .ok (.iconst 1, 1) := by decide +kernel
theorem dX7_comes_37 : decode cX7_comes 37 = .ok (.iload_n 1, 1) := by decide +kernel
theorem dX7_comes_38 : decode cX7_comes 38 = .ok (.invokevirtual 156, 3) := by decide +kernel
theorem dX7_comes_41 : decode cX7_comes 41 = .ok (.ifCond .eq 21, 3) := by decide +kernel
theorem dX7_comes_44 : decode cX7_comes 44 = .ok (.iload_n 2, 1) := by decide +kernel
theorem dX7_comes_45 : decode cX7_comes 45 = .ok (.ifCond .ne 7, 3) := by decide +kernel
theorem dX7_comes_48 : decode cX7_comes 48 = .ok (.iload_n 3, 1) := by decide +kernel
theorem dX7_comes_49 : decode cX7_comes 49 = .ok (.goto 12, 3) := by decide +kernel
theorem dX7_comes_52 : decode cX7_comes 52 = .ok (.aload_n 0, 1) := by decide +kernel
theorem dX7_comes_53 : decode cX7_comes 53 = .ok (.getfield 28, 3) := by decide +kernel
theorem dX7_comes_56 : decode cX7_comes 56 = .ok (.bipush 19, 2) := by decide +kernel
theorem dX7_comes_58 : decode cX7_comes 58 = .ok (.iload_n 1, 1) := by decide +kernel
theorem dX7_comes_59 : decode cX7_comes 59 = .ok (.iadd, 1) := by decide +kernel
theorem dX7_comes_60 : decode cX7_comes 60 = .ok (.iaload, 1) := by decide +kernel
theorem dX7_comes_61 : decode cX7_comes 61 = .ok (.ireturn, 1) := by decide +kernel
theorem dX7_comes_62 : decode cX7_comes 62 = .ok (.aload_n 0, 1) := by decide +kernel
theorem dX7_comes_63 : decode cX7_comes 63 = .ok (.iconst 1, 1) := by decide +kernel
theorem dX7_comes_64 : decode cX7_comes 64 = .ok (.invokevirtual 184, 3) := by decide +kernel
theorem dX7_comes_67 : decode cX7_comes 67 = .ok (.pop, 1) := by decide +kernel
theorem dX7_comes_68 : decode cX7_comes 68 = .ok (.iinc 3 1, 3) := by decide +kernel
theorem dX7_comes_71 : decode cX7_comes 71 = .ok (.goto (-42), 3) := by decide +kernel
theorem dX7_comes_74 : decode cX7_comes 74 = .ok (.bipush (-9), 2) := by decide +kernel
theorem dX7_comes_76 : decode cX7_comes 76 = .ok (.ireturn, 1) := by decide +kernel
set_option maxRecDepth 20000 in
theorem ggX7_way_X7_isJoint : GoodIn wsX7_way wsX7_isJoint := goodIn_r _ [6, 1, 7, 8, 5, 9, 20, 21, 22, 23, 24, 25, 26, 27, 28, 29, 30, 31, 32, 33, 34, 35, 36, 37, 38, 39, 40, 41, 42, 43, 44, 45, 46, 47, 48, 49, 50, 51, 52, 53, 54, 55, 56] (by decide +kernel) (by decide +kernel)
set_option maxRecDepth 20000 in
theorem gX7_way_X7_isJoint : GoodIn wsX7_way (wsV RX7 168 RX7 yX7_isJoint wsX7_isJoint) := goodIn_app (goodIn_of _ (by decide +kernel)) ggX7_way_X7_isJoint
set_option maxRecDepth 20000 in
theorem ggX7_way_X7_has : GoodIn wsX7_way wsX7_has := goodIn_r _ [12] (by decide +kernel) (by decide +kernel)
set_option maxRecDepth 20000 in
theorem gX7_way_X7_has : GoodIn wsX7_way (va_wsS RX7 92 yX7_has wsX7_has) := goodIn_app (goodIn_of _ (by decide +kernel)) ggX7_way_X7_has
set_option maxRecDepth 20000 in
theorem ggX7_way_X7_joinedOn : GoodIn wsX7_way wsX7_joinedOn := goodIn_r _ [16, 17, 18, 19, 10, 11, 5, 12, 20, 21, 22, 23, 24, 25, 26, 27, 28, 29, 30, 31, 32, 33, 34, 35, 36, 37, 38, 39, 40, 41, 42, 43, 44, 45, 46, 47, 48, 49, 50, 51, 52, 53, 54, 55, 56] (by decide +kernel) (by decide +kernel)
set_option maxRecDepth 20000 in
theorem gX7_way_X7_joinedOn : GoodIn wsX7_way (wsV RX7 148 RX7 yX7_joinedOn wsX7_joinedOn) := goodIn_app (goodIn_of _ (by decide +kernel)) ggX7_way_X7_joinedOn
theorem dX7_way_0 : decode cX7_way 0 = .ok (.aload_n 0, 1) := by decide +kernel
theorem dX7_way_1 : decode cX7_way 1 = .ok (.iload_n 1, 1) := by decide +kernel
theorem dX7_way_2 : decode cX7_way 2 = .ok (.invokevirtual 168, 3) := by decide +kernel
theorem dX7_way_5 : decode cX7_way 5 = .ok (.ifCond .eq 11, 3) := by decide +kernel
theorem dX7_way_8 : decode cX7_way 8 = .ok (.aload_n 0, 1) := by decide +kernel
theorem dX7_way_9 : decode cX7_way 9 = .ok (.iload_n 2, 1) := by decide +kernel
theorem dX7_way_10 : decode cX7_way 10 = .ok (.invokevirtual 168, 3) := by decide +kernel
theorem dX7_way_13 : decode cX7_way 13 = .ok (.ifCond .ne 5, 3) := by decide +kernel
theorem dX7_way_16 : decode cX7_way 16 = .ok (.iconst (-1), 1) := by decide +kernel
theorem dX7_way_17 : decode cX7_way 17 = .ok (.ireturn, 1) := by decide +kernel
theorem dX7_way_18 : decode cX7_way 18 = .ok (.iconst 1, 1) := by decide +kernel
theorem dX7_way_19 : decode cX7_way 19 = .ok (.iload_n 1, 1) := by decide +kernel
theorem dX7_way_20 : decode cX7_way 20 = .ok (.ishl, 1) := by decide +kernel
theorem dX7_way_21 : decode cX7_way 21 = .ok (.istore_n 3, 1) := by decide +kernel
theorem dX7_way_22 : decode cX7_way 22 = .ok (.iconst 0, 1) := by decide +kernel
theorem dX7_way_23 : decode cX7_way 23 = .ok (.istore 4, 2) := by decide +kernel
theorem dX7_way_25 : decode cX7_way 25 = .ok (.iload 4, 2) := by decide +kernel
theorem dX7_way_27 : decode cX7_way 27 = .ok (.bipush 6, 2) := by decide +kernel
theorem dX7_way_29 : decode cX7_way 29 = .ok (.if_icmp .ge 69, 3) := by decide +kernel
theorem dX7_way_32 : decode cX7_way 32 = .ok (.iload_n 3, 1) := by decide +kernel
theorem dX7_way_33 : decode cX7_way 33 = .ok (.iload_n 2, 1) := by decide +kernel
theorem dX7_way_34 : decode cX7_way 34 = .ok (.invokestatic 92, 3) := by decide +kernel
theorem dX7_way_37 : decode cX7_way 37 = .ok (.ifCond .eq 6, 3) := by decide +kernel
theorem dX7_way_40 : decode cX7_way 40 = .ok (.iload 4, 2) := by decide +kernel
theorem dX7_way_42 : decode cX7_way 42 = .ok (.ireturn, 1) := by decide +kernel
theorem dX7_way_43 : decode cX7_way 43 = .ok (.iload_n 3, 1) := by decide +kernel
theorem dX7_way_44 : decode cX7_way 44 = .ok (.istore 5, 2) := by decide +kernel
theorem dX7_way_46 : decode cX7_way 46 = .ok (.iconst 0, 1) := by decide +kernel
theorem dX7_way_47 : decode cX7_way 47 = .ok (.istore 6, 2) := by decide +kernel
theorem dX7_way_49 : decode cX7_way 49 = .ok (.iload 6, 2) := by decide +kernel
theorem dX7_way_51 : decode cX7_way 51 = .ok (.aload_n 0, 1) := by decide +kernel
theorem dX7_way_52 : decode cX7_way 52 = .ok (.getfield 123, 3) := by decide +kernel
theorem dX7_way_55 : decode cX7_way 55 = .ok (.if_icmp .ge 34, 3) := by decide +kernel
theorem dX7_way_58 : decode cX7_way 58 = .ok (.iload 5, 2) := by decide +kernel
theorem dX7_way_60 : decode cX7_way 60 = .ok (.iload_n 3, 1) := by decide +kernel
theorem dX7_way_61 : decode cX7_way 61 = .ok (.iload 6, 2) := by decide +kernel
theorem dX7_way_63 : decode cX7_way 63 = .ok (.invokestatic 92, 3) := by decide +kernel
theorem dX7_way_66 : decode cX7_way 66 = .ok (.ifCond .eq 13, 3) := by decide +kernel
theorem dX7_way_69 : decode cX7_way 69 = .ok (.aload_n 0, 1) := by decide +kernel
theorem dX7_way_70 : decode cX7_way 70 = .ok (.iconst 0, 1) := by decide +kernel
theorem dX7_way_71 : decode cX7_way 71 = .ok (.iload 6, 2) := by decide +kernel
theorem dX7_way_73 : decode cX7_way 73 = .ok (.invokevirtual 148, 3) := by decide +kernel
theorem dX7_way_76 : decode cX7_way 76 = .ok (.goto 4, 3) := by decide +kernel
theorem dX7_way_79 : decode cX7_way 79 = .ok (.iconst 0, 1) := by decide +kernel
theorem dX7_way_80 : decode cX7_way 80 = .ok (.ior, 1) := by decide +kernel
theorem dX7_way_81 : decode cX7_way 81 = .ok (.istore 5, 2) := by decide +kernel
theorem dX7_way_83 : decode cX7_way 83 = .ok (.iinc 6 1, 3) := by decide +kernel
theorem dX7_way_86 : decode cX7_way 86 = .ok (.goto (-37), 3) := by decide +kernel
theorem dX7_way_89 : decode cX7_way 89 = .ok (.iload 5, 2) := by decide +kernel
theorem dX7_way_91 : decode cX7_way 91 = .ok (.istore_n 3, 1) := by decide +kernel
theorem dX7_way_92 : decode cX7_way 92 = .ok (.iinc 4 1, 3) := by decide +kernel
theorem dX7_way_95 : decode cX7_way 95 = .ok (.goto (-70), 3) := by decide +kernel
theorem dX7_way_98 : decode cX7_way 98 = .ok (.bipush (-9), 2) := by decide +kernel
theorem dX7_way_100 : decode cX7_way 100 = .ok (.ireturn, 1) := by decide +kernel
set_option maxRecDepth 20000 in
theorem ggX7_mend_X7_isWalker : GoodIn wsX7_mend wsX7_isWalker := goodIn_r _ [7, 8, 9, 10, 6, 11, 67, 68, 69, 70, 71, 72, 73, 74, 75, 76, 77, 78, 79, 80, 81, 82, 83, 84, 85, 86, 87, 88, 89, 90, 91, 92, 93, 94, 95, 96, 97, 98, 99, 100, 101, 102, 103] (by decide +kernel) (by decide +kernel)
set_option maxRecDepth 20000 in
theorem gX7_mend_X7_isWalker : GoodIn wsX7_mend (wsV RX7 175 RX7 yX7_isWalker wsX7_isWalker) := goodIn_app (goodIn_of _ (by decide +kernel)) ggX7_mend_X7_isWalker
set_option maxRecDepth 20000 in
theorem ggX7_mend_X7_isOut : GoodIn wsX7_mend wsX7_isOut := goodIn_r _ [15, 2, 67, 68, 69, 70, 71, 72, 73, 74, 75, 76, 77, 78, 79, 80, 81, 82, 83, 84, 85, 86, 87, 88, 89, 90, 91, 92, 93, 94, 95, 96, 97, 98, 99, 100, 101, 102, 103] (by decide +kernel) (by decide +kernel)
set_option maxRecDepth 20000 in
theorem gX7_mend_X7_isOut : GoodIn wsX7_mend (wsV RX7 156 RX7 yX7_isOut wsX7_isOut) := goodIn_app (goodIn_of _ (by decide +kernel)) ggX7_mend_X7_isOut
set_option maxRecDepth 20000 in
theorem ggX7_mend_X7_layTrial : GoodIn wsX7_mend wsX7_layTrial := goodIn_r _ [19, 2, 67, 68, 69, 70, 71, 72, 73, 74, 75, 76, 77, 78, 79, 80, 81, 82, 83, 84, 85, 86, 87, 88, 89, 90, 91, 92, 93, 94, 95, 96, 97, 98, 99, 100, 101, 102, 103] (by decide +kernel) (by decide +kernel)
set_option maxRecDepth 20000 in
theorem gX7_mend_X7_layTrial : GoodIn wsX7_mend (wsV RX7 193 RX7 yX7_layTrial wsX7_layTrial) := goodIn_app (goodIn_of _ (by decide +kernel)) ggX7_mend_X7_layTrial
set_option maxRecDepth 20000 in
theorem ggX7_mend_X7_goTrial : GoodIn wsX7_mend wsX7_goTrial := goodIn_r _ [23, 24, 25, 26, 6, 27, 28, 29, 30, 31, 2, 32, 33, 34, 35, 36, 37, 8, 38, 39, 40, 12, 13, 14, 15, 41, 42, 43, 44, 45, 46, 47, 48, 49, 50, 51, 52, 53, 54, 55, 56, 1, 57, 58, 59, 60, 61, 67, 68, 69, 70, 71, 72, 73, 74, 75, 76, 77, 78, 79, 80, 81, 82, 83, 84, 85, 86, 87, 88, 89, 90, 91, 92, 93, 94, 95, 96, 97, 98, 99, 100, 101, 102, 103] (by decide +kernel) (by decide +kernel)
set_option maxRecDepth 20000 in
theorem gX7_mend_X7_goTrial : GoodIn wsX7_mend (wsV RX7 196 RX7 yX7_goTrial wsX7_goTrial) := goodIn_app (goodIn_of _ (by decide +kernel)) ggX7_mend_X7_goTrial
set_option maxRecDepth 20000 in
theorem ggX7_mend_X7_outOn : GoodIn wsX7_mend wsX7_outOn := goodIn_r _ [65, 8, 2, 66, 12, 13, 14, 6, 15, 67, 68, 69, 70, 71, 72, 73, 74, 75, 76, 77, 78, 79, 80, 81, 82, 83, 84, 85, 86, 87, 88, 89, 90, 91, 92, 93, 94, 95, 96, 97, 98, 99, 100, 101, 102, 103] (by decide +kernel) (by decide +kernel)
set_option maxRecDepth 20000 in
theorem gX7_mend_X7_outOn : GoodIn wsX7_mend (wsV RX7 199 RX7 yX7_outOn wsX7_outOn) := goodIn_app (goodIn_of _ (by decide +kernel)) ggX7_mend_X7_outOn
set_option maxRecDepth 20000 in
theorem ggX7_mend_X7_has : GoodIn wsX7_mend wsX7_has := goodIn_r _ [43] (by decide +kernel) (by decide +kernel)
set_option maxRecDepth 20000 in
theorem gX7_mend_X7_has : GoodIn wsX7_mend (va_wsS RX7 92 yX7_has wsX7_has) := goodIn_app (goodIn_of _ (by decide +kernel)) ggX7_mend_X7_has
theorem dX7_mend_0 : decode cX7_mend 0 = .ok (.aload_n 0, 1) := by decide +kernel
theorem dX7_mend_1 : decode cX7_mend 1 = .ok (.iload_n 1, 1) := by decide +kernel
theorem dX7_mend_2 : decode cX7_mend 2 = .ok (.invokevirtual 175, 3) := by decide +kernel
theorem dX7_mend_5 : decode cX7_mend 5 = .ok (.ifCond .ne 5, 3) := by decide +kernel
theorem dX7_mend_8 : decode cX7_mend 8 = .ok (.iconst (-1), 1) := by decide +kernel
theorem dX7_mend_9 : decode cX7_mend 9 = .ok (.ireturn, 1) := by decide +kernel
theorem dX7_mend_10 : decode cX7_mend 10 = .ok (.aload_n 0, 1) := by decide +kernel
theorem dX7_mend_11 : decode cX7_mend 11 = .ok (.iconst 0, 1) := by decide +kernel
theorem dX7_mend_12 : decode cX7_mend 12 = .ok (.iload_n 1, 1) := by decide +kernel
theorem dX7_mend_13 : decode cX7_mend 13 = .ok (.invokevirtual 156, 3) := by decide +kernel
theorem dX7_mend_16 : decode cX7_mend 16 = .ok (.ifCond .eq 6, 3) := by decide +kernel
theorem dX7_mend_19 : decode cX7_mend 19 = .ok (.bipush (-3), 2) := by decide +kernel
theorem dX7_mend_21 : decode cX7_mend 21 = .ok (.ireturn, 1) := by decide +kernel
theorem dX7_mend_22 : decode cX7_mend 22 = .ok (.iconst 0, 1) := by decide +kernel
theorem dX7_mend_23 : decode cX7_mend 23 = .ok (.istore_n 2, 1) := by decide +kernel
theorem dX7_mend_24 : decode cX7_mend 24 = .ok (.iload_n 2, 1) := by decide +kernel
theorem dX7_mend_25 : decode cX7_mend 25 = .ok (.aload_n 0, 1) := by decide +kernel
theorem dX7_mend_26 : decode cX7_mend 26 = .ok (.getfield 126, 3) := by decide +kernel
theorem dX7_mend_29 : decode cX7_mend 29 = .ok (.if_icmp .ge 47, 3) := by decide +kernel
theorem dX7_mend_32 : decode cX7_mend 32 = .ok (.aload_n 0, 1) := by decide +kernel
theorem dX7_mend_33 : decode cX7_mend 33 = .ok (.invokevirtual 193, 3) := by decide +kernel
theorem dX7_mend_36 : decode cX7_mend 36 = .ok (.aload_n 0, 1) := by decide +kernel
theorem dX7_mend_37 : decode cX7_mend 37 = .ok (.getfield 28, 3) := by decide +kernel
theorem dX7_mend_40 : decode cX7_mend 40 = .ok (.bipush 35, 2) := by decide +kernel
theorem dX7_mend_42 : decode cX7_mend 42 = .ok (.dup2, 1) := by decide +kernel
theorem dX7_mend_43 : decode cX7_mend 43 = .ok (.iaload, 1) := by decide +kernel
theorem dX7_mend_44 : decode cX7_mend 44 = .ok (.iconst 1, 1) := by decide +kernel
theorem dX7_mend_45 : decode cX7_mend 45 = .ok (.iload_n 2, 1) := by decide +kernel
theorem dX7_mend_46 : decode cX7_mend 46 = .ok (.ishl, 1) := by decide +kernel
theorem dX7_mend_47 : decode cX7_mend 47 = .ok (.ixor, 1) := by decide +kernel
theorem dX7_mend_48 : decode cX7_mend 48 = .ok (.iastore, 1) := by decide +kernel
theorem dX7_mend_49 : decode cX7_mend 49 = .ok (.aload_n 0, 1) := by decide +kernel
theorem dX7_mend_50 : decode cX7_mend 50 = .ok (.bipush 40, 2) := by decide +kernel
theorem dX7_mend_52 : decode cX7_mend 52 = .ok (.invokevirtual 196, 3) := by decide +kernel
theorem dX7_mend_55 : decode cX7_mend 55 = .ok (.aload_n 0, 1) := by decide +kernel
theorem dX7_mend_56 : decode cX7_mend 56 = .ok (.iconst 1, 1) := by decide +kernel
theorem dX7_mend_57 : decode cX7_mend 57 = .ok (.iconst 1, 1) := by decide +kernel
theorem dX7_mend_58 : decode cX7_mend 58 = .ok (.invokevirtual 199, 3) := by decide +kernel
theorem dX7_mend_61 : decode cX7_mend 61 = .ok (.iload_n 1, 1) := by decide +kernel
theorem dX7_mend_62 : decode cX7_mend 62 = .ok (.invokestatic 92, 3) := by decide +kernel
theorem dX7_mend_65 : decode cX7_mend 65 = .ok (.ifCond .eq 5, 3) := by decide +kernel
theorem dX7_mend_68 : decode cX7_mend 68 = .ok (.iload_n 2, 1) := by decide +kernel
theorem dX7_mend_69 : decode cX7_mend 69 = .ok (.ireturn, 1) := by decide +kernel
theorem dX7_mend_70 : decode cX7_mend 70 = .ok (.iinc 2 1, 3) := by decide +kernel
theorem dX7_mend_73 : decode cX7_mend 73 = .ok (.goto (-49), 3) := by decide +kernel
theorem dX7_mend_76 : decode cX7_mend 76 = .ok (.bipush (-9), 2) := by decide +kernel
theorem dX7_mend_78 : decode cX7_mend 78 = .ok (.ireturn, 1) := by decide +kernel
set_option maxRecDepth 20000 in
theorem ggX7_watch_X7_layTrial : GoodIn wsX7_watch wsX7_layTrial := goodIn_r _ [9, 3, 55, 56, 57, 58, 59, 60, 61, 62, 63, 64, 65, 66, 67, 68, 69, 70, 71, 72, 73, 74, 75, 76, 77, 78, 79, 80, 81, 82, 83, 84, 85, 86, 87, 88, 89, 90, 91] (by decide +kernel) (by decide +kernel)
set_option maxRecDepth 20000 in
theorem gX7_watch_X7_layTrial : GoodIn wsX7_watch (wsV RX7 193 RX7 yX7_layTrial wsX7_layTrial) := goodIn_app (goodIn_of _ (by decide +kernel)) ggX7_watch_X7_layTrial
set_option maxRecDepth 20000 in
theorem ggX7_watch_X7_stepOn : GoodIn wsX7_watch wsX7_stepOn := goodIn_r _ [13, 14, 15, 16, 8, 17, 3, 18, 19, 20, 21, 22, 23, 1, 24, 25, 26, 27, 28, 29, 30, 31, 32, 33, 34, 35, 36, 37, 38, 39, 40, 4, 41, 42, 43, 44, 45, 46, 47, 48, 49, 50, 51, 55, 56, 57, 58, 59, 60, 61, 62, 63, 64, 65, 66, 67, 68, 69, 70, 71, 72, 73, 74, 75, 76, 77, 78, 79, 80, 81, 82, 83, 84, 85, 86, 87, 88, 89, 90, 91] (by decide +kernel) (by decide +kernel)
set_option maxRecDepth 20000 in
theorem gX7_watch_X7_stepOn : GoodIn wsX7_watch (wsV RX7 184 RX7 yX7_stepOn wsX7_stepOn) := goodIn_app (goodIn_of _ (by decide +kernel)) ggX7_watch_X7_stepOn
set_option maxRecDepth 20000 in
theorem ggX7_watch_X7_ones : GoodIn wsX7_watch wsX7_ones := goodIn_r _ [54] (by decide +kernel) (by decide +kernel)
set_option maxRecDepth 20000 in
theorem gX7_watch_X7_ones : GoodIn wsX7_watch (va_wsS RX7 203 yX7_ones wsX7_ones) := goodIn_app (goodIn_of _ (by decide +kernel)) ggX7_watch_X7_ones
set_option maxRecDepth 20000 in
theorem ggX7_watch_X7_isOut : GoodIn wsX7_watch wsX7_isOut := goodIn_r _ [30, 3, 55, 56, 57, 58, 59, 60, 61, 62, 63, 64, 65, 66, 67, 68, 69, 70, 71, 72, 73, 74, 75, 76, 77, 78, 79, 80, 81, 82, 83, 84, 85, 86, 87, 88, 89, 90, 91] (by decide +kernel) (by decide +kernel)
set_option maxRecDepth 20000 in
theorem gX7_watch_X7_isOut : GoodIn wsX7_watch (wsV RX7 156 RX7 yX7_isOut wsX7_isOut) := goodIn_app (goodIn_of _ (by decide +kernel)) ggX7_watch_X7_isOut
theorem dX7_watch_0 : decode cX7_watch 0 = .ok (.aload_n 0, 1) := by decide +kernel
theorem dX7_watch_1 : decode cX7_watch 1 = .ok (.invokevirtual 193, 3) := by decide +kernel
theorem dX7_watch_4 : decode cX7_watch 4 = .ok (.iconst 0, 1) := by decide +kernel
theorem dX7_watch_5 : decode cX7_watch 5 = .ok (.istore_n 1, 1) := by decide +kernel
theorem dX7_watch_6 : decode cX7_watch 6 = .ok (.iload_n 1, 1) := by decide +kernel
theorem dX7_watch_7 : decode cX7_watch 7 = .ok (.aload_n 0, 1) := by decide +kernel
theorem dX7_watch_8 : decode cX7_watch 8 = .ok (.getfield 129, 3) := by decide +kernel
theorem dX7_watch_11 : decode cX7_watch 11 = .ok (.if_icmp .ge 16, 3) := by decide +kernel
theorem dX7_watch_14 : decode cX7_watch 14 = .ok (.aload_n 0, 1) := by decide +kernel
theorem dX7_watch_15 : decode cX7_watch 15 = .ok (.getfield 49, 3) := by decide +kernel
theorem dX7_watch_18 : decode cX7_watch 18 = .ok (.iload_n 1, 1) := by decide +kernel
theorem dX7_watch_19 : decode cX7_watch 19 = .ok (.iconst 0, 1) := by decide +kernel
theorem dX7_watch_20 : decode cX7_watch 20 = .ok (.iastore, 1) := by decide +kernel
theorem dX7_watch_21 : decode cX7_watch 21 = .ok (.iinc 1 1, 3) := by decide +kernel
theorem dX7_watch_24 : decode cX7_watch 24 = .ok (.goto (-18), 3) := by decide +kernel
theorem dX7_watch_27 : decode cX7_watch 27 = .ok (.iconst 0, 1) := by decide +kernel
theorem dX7_watch_28 : decode cX7_watch 28 = .ok (.istore_n 1, 1) := by decide +kernel
theorem dX7_watch_29 : decode cX7_watch 29 = .ok (.iload_n 1, 1) := by decide +kernel
theorem dX7_watch_30 : decode cX7_watch 30 = .ok (.bipush 8, 2) := by decide +kernel
theorem dX7_watch_32 : decode cX7_watch 32 = .ok (.if_icmp .gt 51, 3) := by decide +kernel
theorem dX7_watch_35 : decode cX7_watch 35 = .ok (.iconst 0, 1) := by decide +kernel
theorem dX7_watch_36 : decode cX7_watch 36 = .ok (.istore_n 2, 1) := by decide +kernel
theorem dX7_watch_37 : decode cX7_watch 37 = .ok (.iload_n 2, 1) := by decide +kernel
theorem dX7_watch_38 : decode cX7_watch 38 = .ok (.aload_n 0, 1) := by decide +kernel
theorem dX7_watch_39 : decode cX7_watch 39 = .ok (.getfield 129, 3) := by decide +kernel
theorem dX7_watch_42 : decode cX7_watch 42 = .ok (.if_icmp .ge 29, 3) := by decide +kernel
theorem dX7_watch_45 : decode cX7_watch 45 = .ok (.aload_n 0, 1) := by decide +kernel
theorem dX7_watch_46 : decode cX7_watch 46 = .ok (.getfield 49, 3) := by decide +kernel
theorem dX7_watch_49 : decode cX7_watch 49 = .ok (.iload_n 2, 1) := by decide +kernel
theorem dX7_watch_50 : decode cX7_watch 50 = .ok (.dup2, 1) := by decide +kernel
theorem dX7_watch_51 : decode cX7_watch 51 = .ok (.iaload, 1) := by decide +kernel
theorem dX7_watch_52 : decode cX7_watch 52 = .ok (.iconst 1, 1) := by decide +kernel
theorem dX7_watch_53 : decode cX7_watch 53 = .ok (.aload_n 0, 1) := by decide +kernel
theorem dX7_watch_54 : decode cX7_watch 54 = .ok (.getfield 28, 3) := by decide +kernel
theorem dX7_watch_57 : decode cX7_watch 57 = .ok (.bipush 19, 2) := by decide +kernel
theorem dX7_watch_59 : decode cX7_watch 59 = .ok (.iload_n 2, 1) := by decide +kernel
theorem dX7_watch_60 : decode cX7_watch 60 = .ok (.iadd, 1) := by decide +kernel
theorem dX7_watch_61 : decode cX7_watch 61 = .ok (.iaload, 1) := by decide +kernel
theorem dX7_watch_62 : decode cX7_watch 62 = .ok (.ishl, 1) := by decide +kernel
theorem dX7_watch_63 : decode cX7_watch 63 = .ok (.ior, 1) := by decide +kernel
theorem dX7_watch_64 : decode cX7_watch 64 = .ok (.iastore, 1) := by decide +kernel
theorem dX7_watch_65 : decode cX7_watch 65 = .ok (.iinc 2 1, 3) := by decide +kernel
theorem dX7_watch_68 : decode cX7_watch 68 = .ok (.goto (-31), 3) := by decide +kernel
theorem dX7_watch_71 : decode cX7_watch 71 = .ok (.aload_n 0, 1) := by decide +kernel
theorem dX7_watch_72 : decode cX7_watch 72 = .ok (.iconst 1, 1) := by decide +kernel
theorem dX7_watch_73 : decode cX7_watch 73 = .ok (.invokevirtual 184, 3) := by decide +kernel
theorem dX7_watch_76 : decode cX7_watch 76 = .ok (.pop, 1) := by decide +kernel
theorem dX7_watch_77 : decode cX7_watch 77 = .ok (.iinc 1 1, 3) := by decide +kernel
theorem dX7_watch_80 : decode cX7_watch 80 = .ok (.goto (-51), 3) := by decide +kernel
theorem dX7_watch_83 : decode cX7_watch 83 = .ok (.bipush (-9), 2) := by decide +kernel
theorem dX7_watch_85 : decode cX7_watch 85 = .ok (.istore_n 1, 1) := by decide +kernel
theorem dX7_watch_86 : decode cX7_watch 86 = .ok (.iconst 0, 1) := by decide +kernel
theorem dX7_watch_87 : decode cX7_watch 87 = .ok (.istore_n 2, 1) := by decide +kernel
theorem dX7_watch_88 : decode cX7_watch 88 = .ok (.iload_n 2, 1) := by decide +kernel
theorem dX7_watch_89 : decode cX7_watch 89 = .ok (.iconst 1, 1) := by decide +kernel
theorem dX7_watch_90 : decode cX7_watch 90 = .ok (.aload_n 0, 1) := by decide +kernel
theorem dX7_watch_91 : decode cX7_watch 91 = .ok (.getfield 123, 3) := by decide +kernel
theorem dX7_watch_94 : decode cX7_watch 94 = .ok (.ishl, 1) := by decide +kernel
theorem dX7_watch_95 : decode cX7_watch 95 = .ok (.if_icmp .ge 92, 3) := by decide +kernel
theorem dX7_watch_98 : decode cX7_watch 98 = .ok (.iload_n 1, 1) := by decide +kernel
theorem dX7_watch_99 : decode cX7_watch 99 = .ok (.bipush (-9), 2) := by decide +kernel
theorem dX7_watch_101 : decode cX7_watch 101 = .ok (.if_icmp .eq 14, 3) := by decide +kernel
theorem dX7_watch_104 : decode cX7_watch 104 = .ok (.iload_n 2, 1) := by decide +kernel
theorem dX7_watch_105 : decode cX7_watch 105 = .ok (.invokestatic 203, 3) := by decide +kernel
theorem dX7_watch_108 : decode cX7_watch 108 = .ok (.iload_n 1, 1) := by decide +kernel
theorem dX7_watch_109 : decode cX7_watch 109 = .ok (.invokestatic 203, 3) := by decide +kernel
theorem dX7_watch_112 : decode cX7_watch 112 = .ok (.if_icmp .ge 7, 3) := by decide +kernel
theorem dX7_watch_115 : decode cX7_watch 115 = .ok (.iconst 1, 1) := by decide +kernel
theorem dX7_watch_116 : decode cX7_watch 116 = .ok (.goto 4, 3) := by decide +kernel
theorem dX7_watch_119 : decode cX7_watch 119 = .ok (.iconst 0, 1) := by decide +kernel
theorem dX7_watch_120 : decode cX7_watch 120 = .ok (.istore_n 3, 1) := by decide +kernel
theorem dX7_watch_121 : decode cX7_watch 121 = .ok (.iconst 0, 1) := by decide +kernel
theorem dX7_watch_122 : decode cX7_watch 122 = .ok (.istore 4, 2) := by decide +kernel
theorem dX7_watch_124 : decode cX7_watch 124 = .ok (.iload 4, 2) := by decide +kernel
theorem dX7_watch_126 : decode cX7_watch 126 = .ok (.aload_n 0, 1) := by decide +kernel
theorem dX7_watch_127 : decode cX7_watch 127 = .ok (.getfield 129, 3) := by decide +kernel
theorem dX7_watch_130 : decode cX7_watch 130 = .ok (.if_icmp .ge 41, 3) := by decide +kernel
theorem dX7_watch_133 : decode cX7_watch 133 = .ok (.iload_n 3, 1) := by decide +kernel
theorem dX7_watch_134 : decode cX7_watch 134 = .ok (.ifCond .eq 29, 3) := by decide +kernel
theorem dX7_watch_137 : decode cX7_watch 137 = .ok (.aload_n 0, 1) := by decide +kernel
theorem dX7_watch_138 : decode cX7_watch 138 = .ok (.iconst 0, 1) := by decide +kernel
theorem dX7_watch_139 : decode cX7_watch 139 = .ok (.iload 4, 2) := by decide +kernel
theorem dX7_watch_141 : decode cX7_watch 141 = .ok (.invokevirtual 156, 3) := by decide +kernel
theorem dX7_watch_144 : decode cX7_watch 144 = .ok (.ifCond .ne 15, 3) := by decide +kernel
theorem dX7_watch_147 : decode cX7_watch 147 = .ok (.aload_n 0, 1) := by decide +kernel
theorem dX7_watch_148 : decode cX7_watch 148 = .ok (.getfield 49, 3) := by decide +kernel
theorem dX7_watch_151 : decode cX7_watch 151 = .ok (.iload 4, 2) := by decide +kernel
theorem dX7_watch_153 : decode cX7_watch 153 = .ok (.iaload, 1) := by decide +kernel
theorem dX7_watch_154 : decode cX7_watch 154 = .ok (.iload_n 2, 1) := by decide +kernel
theorem dX7_watch_155 : decode cX7_watch 155 = .ok (.iand, 1) := by decide +kernel
theorem dX7_watch_156 : decode cX7_watch 156 = .ok (.ifCond .eq 7, 3) := by decide +kernel
theorem dX7_watch_159 : decode cX7_watch 159 = .ok (.iconst 1, 1) := by decide +kernel
theorem dX7_watch_160 : decode cX7_watch 160 = .ok (.goto 4, 3) := by decide +kernel
theorem dX7_watch_163 : decode cX7_watch 163 = .ok (.iconst 0, 1) := by decide +kernel
theorem dX7_watch_164 : decode cX7_watch 164 = .ok (.istore_n 3, 1) := by decide +kernel
theorem dX7_watch_165 : decode cX7_watch 165 = .ok (.iinc 4 1, 3) := by decide +kernel
theorem dX7_watch_168 : decode cX7_watch 168 = .ok (.goto (-44), 3) := by decide +kernel
theorem dX7_watch_171 : decode cX7_watch 171 = .ok (.iload_n 3, 1) := by decide +kernel
theorem dX7_watch_172 : decode cX7_watch 172 = .ok (.ifCond .eq 7, 3) := by decide +kernel
theorem dX7_watch_175 : decode cX7_watch 175 = .ok (.iload_n 2, 1) := by decide +kernel
theorem dX7_watch_176 : decode cX7_watch 176 = .ok (.goto 4, 3) := by decide +kernel
theorem dX7_watch_179 : decode cX7_watch 179 = .ok (.iload_n 1, 1) := by decide +kernel
theorem dX7_watch_180 : decode cX7_watch 180 = .ok (.istore_n 1, 1) := by decide +kernel
theorem dX7_watch_181 : decode cX7_watch 181 = .ok (.iinc 2 1, 3) := by decide +kernel
theorem dX7_watch_184 : decode cX7_watch 184 = .ok (.goto (-96), 3) := by decide +kernel
theorem dX7_watch_187 : decode cX7_watch 187 = .ok (.iload_n 1, 1) := by decide +kernel
theorem dX7_watch_188 : decode cX7_watch 188 = .ok (.ireturn, 1) := by decide +kernel
theorem dX7_power_0 : decode cX7_power 0 = .ok (.iconst 1, 1) := by decide +kernel
theorem dX7_power_1 : decode cX7_power 1 = .ok (.istore_n 2, 1) := by decide +kernel
theorem dX7_power_2 : decode cX7_power 2 = .ok (.iconst 0, 1) := by decide +kernel
theorem dX7_power_3 : decode cX7_power 3 = .ok (.istore_n 3, 1) := by decide +kernel
theorem dX7_power_4 : decode cX7_power 4 = .ok (.iload_n 3, 1) := by decide +kernel
theorem dX7_power_5 : decode cX7_power 5 = .ok (.iload_n 1, 1) := by decide +kernel
theorem dX7_power_6 : decode cX7_power 6 = .ok (.if_icmp .ge 13, 3) := by decide +kernel
theorem dX7_power_9 : decode cX7_power 9 = .ok (.iload_n 2, 1) := by decide +kernel
theorem dX7_power_10 : decode cX7_power 10 = .ok (.iload_n 0, 1) := by decide +kernel
theorem dX7_power_11 : decode cX7_power 11 = .ok (.imul, 1) := by decide +kernel
theorem dX7_power_12 : decode cX7_power 12 = .ok (.istore_n 2, 1) := by decide +kernel
theorem dX7_power_13 : decode cX7_power 13 = .ok (.iinc 3 1, 3) := by decide +kernel
theorem dX7_power_16 : decode cX7_power 16 = .ok (.goto (-12), 3) := by decide +kernel
theorem dX7_power_19 : decode cX7_power 19 = .ok (.iload_n 2, 1) := by decide +kernel
theorem dX7_power_20 : decode cX7_power 20 = .ok (.ireturn, 1) := by decide +kernel
set_option maxRecDepth 20000 in
theorem ggX7_tryThing_X7_stepOn : GoodIn wsX7_tryThing wsX7_stepOn := goodIn_r _ [7, 8, 9, 10, 6, 11, 1, 12, 13, 14, 15, 16, 17, 18, 19, 20, 2, 21, 22, 23, 24, 25, 26, 27, 28, 29, 30, 31, 32, 33, 34, 35, 36, 37, 38, 39, 40, 41, 42, 43, 44, 45, 46, 66, 67, 68, 69, 70, 71, 72, 73, 74, 75, 76, 77, 78, 79, 80, 81, 82, 83, 84, 85, 86, 87, 88, 89, 90, 91, 92, 93, 94, 95, 96, 97, 98, 99, 100, 101, 102] (by decide +kernel) (by decide +kernel)
set_option maxRecDepth 20000 in
theorem gX7_tryThing_X7_stepOn : GoodIn wsX7_tryThing (wsV RX7 184 RX7 yX7_stepOn wsX7_stepOn) := goodIn_app (goodIn_of _ (by decide +kernel)) ggX7_tryThing_X7_stepOn
set_option maxRecDepth 20000 in
theorem ggX7_tryThing_X7_isPipe : GoodIn wsX7_tryThing wsX7_isPipe := goodIn_r _ [50, 41, 51, 52, 6, 53, 66, 67, 68, 69, 70, 71, 72, 73, 74, 75, 76, 77, 78, 79, 80, 81, 82, 83, 84, 85, 86, 87, 88, 89, 90, 91, 92, 93, 94, 95, 96, 97, 98, 99, 100, 101, 102] (by decide +kernel) (by decide +kernel)
set_option maxRecDepth 20000 in
theorem gX7_tryThing_X7_isPipe : GoodIn wsX7_tryThing (wsV RX7 172 RX7 yX7_isPipe wsX7_isPipe) := goodIn_app (goodIn_of _ (by decide +kernel)) ggX7_tryThing_X7_isPipe
set_option maxRecDepth 20000 in
theorem ggX7_tryThing_X7_has : GoodIn wsX7_tryThing wsX7_has := goodIn_r _ [27] (by decide +kernel) (by decide +kernel)
set_option maxRecDepth 20000 in
theorem gX7_tryThing_X7_has : GoodIn wsX7_tryThing (va_wsS RX7 92 yX7_has wsX7_has) := goodIn_app (goodIn_of _ (by decide +kernel)) ggX7_tryThing_X7_has
set_option maxRecDepth 20000 in
theorem ggX7_tryThing_X7_isJoint : GoodIn wsX7_tryThing wsX7_isJoint := goodIn_r _ [57, 35, 51, 52, 6, 53, 66, 67, 68, 69, 70, 71, 72, 73, 74, 75, 76, 77, 78, 79, 80, 81, 82, 83, 84, 85, 86, 87, 88, 89, 90, 91, 92, 93, 94, 95, 96, 97, 98, 99, 100, 101, 102] (by decide +kernel) (by decide +kernel)
set_option maxRecDepth 20000 in
theorem gX7_tryThing_X7_isJoint : GoodIn wsX7_tryThing (wsV RX7 168 RX7 yX7_isJoint wsX7_isJoint) := goodIn_app (goodIn_of _ (by decide +kernel)) ggX7_tryThing_X7_isJoint
set_option maxRecDepth 20000 in
theorem ggX7_tryThing_X7_isWalker : GoodIn wsX7_tryThing wsX7_isWalker := goodIn_r _ [61, 18, 51, 52, 6, 53, 66, 67, 68, 69, 70, 71, 72, 73, 74, 75, 76, 77, 78, 79, 80, 81, 82, 83, 84, 85, 86, 87, 88, 89, 90, 91, 92, 93, 94, 95, 96, 97, 98, 99, 100, 101, 102] (by decide +kernel) (by decide +kernel)
set_option maxRecDepth 20000 in
theorem gX7_tryThing_X7_isWalker : GoodIn wsX7_tryThing (wsV RX7 175 RX7 yX7_isWalker wsX7_isWalker) := goodIn_app (goodIn_of _ (by decide +kernel)) ggX7_tryThing_X7_isWalker
set_option maxRecDepth 20000 in
theorem ggX7_tryThing_X7_isOut : GoodIn wsX7_tryThing wsX7_isOut := goodIn_r _ [24, 1, 66, 67, 68, 69, 70, 71, 72, 73, 74, 75, 76, 77, 78, 79, 80, 81, 82, 83, 84, 85, 86, 87, 88, 89, 90, 91, 92, 93, 94, 95, 96, 97, 98, 99, 100, 101, 102] (by decide +kernel) (by decide +kernel)
set_option maxRecDepth 20000 in
theorem gX7_tryThing_X7_isOut : GoodIn wsX7_tryThing (wsV RX7 156 RX7 yX7_isOut wsX7_isOut) := goodIn_app (goodIn_of _ (by decide +kernel)) ggX7_tryThing_X7_isOut
set_option maxRecDepth 20000 in
theorem ggX7_tryThing_X7_callOn : GoodIn wsX7_tryThing wsX7_callOn := goodIn_r _ [65, 1, 66, 67, 68, 69, 70, 71, 72, 73, 74, 75, 76, 77, 78, 79, 80, 81, 82, 83, 84, 85, 86, 87, 88, 89, 90, 91, 92, 93, 94, 95, 96, 97, 98, 99, 100, 101, 102] (by decide +kernel) (by decide +kernel)
set_option maxRecDepth 20000 in
theorem gX7_tryThing_X7_callOn : GoodIn wsX7_tryThing (wsV RX7 187 RX7 yX7_callOn wsX7_callOn) := goodIn_app (goodIn_of _ (by decide +kernel)) ggX7_tryThing_X7_callOn
theorem dX7_tryThing_0 : decode cX7_tryThing 0 = .ok (.iload_n 1, 1) := by decide +kernel
