theorem d_Md_mine_0 : decode prog_8_method_12_code 0 = .ok (.aload_n 0, 1) := by decide +kernel
theorem d_Md_mine_1 : decode prog_8_method_12_code 1 = .ok (.iconst 0, 1) := by decide +kernel
theorem d_Md_mine_2 : decode prog_8_method_12_code 2 = .ok (.putfield 72, 3) := by decide +kernel
theorem d_Md_mine_5 : decode prog_8_method_12_code 5 = .ok (.iconst 0, 1) := by decide +kernel
theorem d_Md_mine_6 : decode prog_8_method_12_code 6 = .ok (.istore_n 1, 1) := by decide +kernel
theorem d_Md_mine_7 : decode prog_8_method_12_code 7 = .ok (.iload_n 1, 1) := by decide +kernel
theorem d_Md_mine_8 : decode prog_8_method_12_code 8 = .ok (.bipush 49, 2) := by decide +kernel
theorem d_Md_mine_10 : decode prog_8_method_12_code 10 = .ok (.if_icmp .ge 27, 3) := by decide +kernel
theorem d_Md_mine_13 : decode prog_8_method_12_code 13 = .ok (.aload_n 0, 1) := by decide +kernel
theorem d_Md_mine_14 : decode prog_8_method_12_code 14 = .ok (.getfield 34, 3) := by decide +kernel
theorem d_Md_mine_17 : decode prog_8_method_12_code 17 = .ok (.iload_n 1, 1) := by decide +kernel
theorem d_Md_mine_18 : decode prog_8_method_12_code 18 = .ok (.aload_n 0, 1) := by decide +kernel
theorem d_Md_mine_19 : decode prog_8_method_12_code 19 = .ok (.iload_n 1, 1) := by decide +kernel
theorem d_Md_mine_20 : decode prog_8_method_12_code 20 = .ok (.bipush 7, 2) := by decide +kernel
theorem d_Md_mine_22 : decode prog_8_method_12_code 22 = .ok (.idiv, 1) := by decide +kernel
theorem d_Md_mine_23 : decode prog_8_method_12_code 23 = .ok (.iload_n 1, 1) := by decide +kernel
theorem d_Md_mine_24 : decode prog_8_method_12_code 24 = .ok (.bipush 7, 2) := by decide +kernel
theorem d_Md_mine_26 : decode prog_8_method_12_code 26 = .ok (.irem, 1) := by decide +kernel
theorem d_Md_mine_27 : decode prog_8_method_12_code 27 = .ok (.invokevirtual 75, 3) := by decide +kernel
theorem d_Md_mine_30 : decode prog_8_method_12_code 30 = .ok (.iastore, 1) := by decide +kernel
theorem d_Md_mine_31 : decode prog_8_method_12_code 31 = .ok (.iinc 1 1, 3) := by decide +kernel
theorem d_Md_mine_34 : decode prog_8_method_12_code 34 = .ok (.goto (-27), 3) := by decide +kernel
theorem d_Md_mine_37 : decode prog_8_method_12_code 37 = .ok (.iconst 1, 1) := by decide +kernel
theorem d_Md_mine_38 : decode prog_8_method_12_code 38 = .ok (.istore_n 1, 1) := by decide +kernel
theorem d_Md_mine_39 : decode prog_8_method_12_code 39 = .ok (.iload_n 1, 1) := by decide +kernel
theorem d_Md_mine_40 : decode prog_8_method_12_code 40 = .ok (.sipush 128, 3) := by decide +kernel
theorem d_Md_mine_43 : decode prog_8_method_12_code 43 = .ok (.if_icmp .ge 90, 3) := by decide +kernel
theorem d_Md_mine_46 : decode prog_8_method_12_code 46 = .ok (.aload_n 0, 1) := by decide +kernel
theorem d_Md_mine_47 : decode prog_8_method_12_code 47 = .ok (.getfield 72, 3) := by decide +kernel
theorem d_Md_mine_50 : decode prog_8_method_12_code 50 = .ok (.bipush 15, 2) := by decide +kernel
theorem d_Md_mine_52 : decode prog_8_method_12_code 52 = .ok (.if_icmp .ge 81, 3) := by decide +kernel
theorem d_Md_mine_55 : decode prog_8_method_12_code 55 = .ok (.iconst 1, 1) := by decide +kernel
theorem d_Md_mine_56 : decode prog_8_method_12_code 56 = .ok (.istore_n 2, 1) := by decide +kernel
theorem d_Md_mine_57 : decode prog_8_method_12_code 57 = .ok (.iload_n 2, 1) := by decide +kernel
theorem d_Md_mine_58 : decode prog_8_method_12_code 58 = .ok (.sipush 128, 3) := by decide +kernel
theorem d_Md_mine_61 : decode prog_8_method_12_code 61 = .ok (.if_icmp .ge 66, 3) := by decide +kernel
theorem d_Md_mine_64 : decode prog_8_method_12_code 64 = .ok (.aload_n 0, 1) := by decide +kernel
theorem d_Md_mine_65 : decode prog_8_method_12_code 65 = .ok (.getfield 72, 3) := by decide +kernel
theorem d_Md_mine_68 : decode prog_8_method_12_code 68 = .ok (.bipush 15, 2) := by decide +kernel
theorem d_Md_mine_70 : decode prog_8_method_12_code 70 = .ok (.if_icmp .ge 57, 3) := by decide +kernel
theorem d_Md_mine_73 : decode prog_8_method_12_code 73 = .ok (.aload_n 0, 1) := by decide +kernel
theorem d_Md_mine_74 : decode prog_8_method_12_code 74 = .ok (.iload_n 1, 1) := by decide +kernel
theorem d_Md_mine_75 : decode prog_8_method_12_code 75 = .ok (.iload_n 2, 1) := by decide +kernel
theorem d_Md_mine_76 : decode prog_8_method_12_code 76 = .ok (.invokevirtual 69, 3) := by decide +kernel
theorem d_Md_mine_79 : decode prog_8_method_12_code 79 = .ok (.ifCond .eq 42, 3) := by decide +kernel
theorem d_Md_mine_82 : decode prog_8_method_12_code 82 = .ok (.aload_n 0, 1) := by decide +kernel
theorem d_Md_mine_83 : decode prog_8_method_12_code 83 = .ok (.iload_n 1, 1) := by decide +kernel
theorem d_Md_mine_84 : decode prog_8_method_12_code 84 = .ok (.iload_n 2, 1) := by decide +kernel
theorem d_Md_mine_85 : decode prog_8_method_12_code 85 = .ok (.invokevirtual 79, 3) := by decide +kernel
theorem d_Md_mine_88 : decode prog_8_method_12_code 88 = .ok (.ifCond .eq 33, 3) := by decide +kernel
theorem d_Md_mine_91 : decode prog_8_method_12_code 91 = .ok (.aload_n 0, 1) := by decide +kernel
theorem d_Md_mine_92 : decode prog_8_method_12_code 92 = .ok (.getfield 37, 3) := by decide +kernel
theorem d_Md_mine_95 : decode prog_8_method_12_code 95 = .ok (.aload_n 0, 1) := by decide +kernel
theorem d_Md_mine_96 : decode prog_8_method_12_code 96 = .ok (.getfield 72, 3) := by decide +kernel
theorem d_Md_mine_99 : decode prog_8_method_12_code 99 = .ok (.iload_n 1, 1) := by decide +kernel
theorem d_Md_mine_100 : decode prog_8_method_12_code 100 = .ok (.iastore, 1) := by decide +kernel
theorem d_Md_mine_101 : decode prog_8_method_12_code 101 = .ok (.aload_n 0, 1) := by decide +kernel
theorem d_Md_mine_102 : decode prog_8_method_12_code 102 = .ok (.getfield 40, 3) := by decide +kernel
theorem d_Md_mine_105 : decode prog_8_method_12_code 105 = .ok (.aload_n 0, 1) := by decide +kernel
theorem d_Md_mine_106 : decode prog_8_method_12_code 106 = .ok (.getfield 72, 3) := by decide +kernel
theorem d_Md_mine_109 : decode prog_8_method_12_code 109 = .ok (.iload_n 2, 1) := by decide +kernel
theorem d_Md_mine_110 : decode prog_8_method_12_code 110 = .ok (.iastore, 1) := by decide +kernel
theorem d_Md_mine_111 : decode prog_8_method_12_code 111 = .ok (.aload_n 0, 1) := by decide +kernel
theorem d_Md_mine_112 : decode prog_8_method_12_code 112 = .ok (.dup, 1) := by decide +kernel
theorem d_Md_mine_113 : decode prog_8_method_12_code 113 = .ok (.getfield 72, 3) := by decide +kernel
theorem d_Md_mine_116 : decode prog_8_method_12_code 116 = .ok (.iconst 1, 1) := by decide +kernel
theorem d_Md_mine_117 : decode prog_8_method_12_code 117 = .ok (.iadd, 1) := by decide +kernel
theorem d_Md_mine_118 : decode prog_8_method_12_code 118 = .ok (.putfield 72, 3) := by decide +kernel
theorem d_Md_mine_121 : decode prog_8_method_12_code 121 = .ok (.iinc 2 1, 3) := by decide +kernel
theorem d_Md_mine_124 : decode prog_8_method_12_code 124 = .ok (.goto (-67), 3) := by decide +kernel
theorem d_Md_mine_127 : decode prog_8_method_12_code 127 = .ok (.iinc 1 1, 3) := by decide +kernel
theorem d_Md_mine_130 : decode prog_8_method_12_code 130 = .ok (.goto (-91), 3) := by decide +kernel
theorem d_Md_mine_133 : decode prog_8_method_12_code 133 = .ok (.aload_n 0, 1) := by decide +kernel
theorem d_Md_mine_134 : decode prog_8_method_12_code 134 = .ok (.getfield 72, 3) := by decide +kernel
theorem d_Md_mine_137 : decode prog_8_method_12_code 137 = .ok (.bipush 14, 2) := by decide +kernel
theorem d_Md_mine_139 : decode prog_8_method_12_code 139 = .ok (.if_icmp .le 6, 3) := by decide +kernel
theorem d_Md_mine_142 : decode prog_8_method_12_code 142 = .ok (.bipush (-2), 2) := by decide +kernel
theorem d_Md_mine_144 : decode prog_8_method_12_code 144 = .ok (.ireturn, 1) := by decide +kernel
theorem d_Md_mine_145 : decode prog_8_method_12_code 145 = .ok (.iconst 0, 1) := by decide +kernel
theorem d_Md_mine_146 : decode prog_8_method_12_code 146 = .ok (.istore_n 1, 1) := by decide +kernel
theorem d_Md_mine_147 : decode prog_8_method_12_code 147 = .ok (.iload_n 1, 1) := by decide +kernel
theorem d_Md_mine_148 : decode prog_8_method_12_code 148 = .ok (.aload_n 0, 1) := by decide +kernel
theorem d_Md_mine_149 : decode prog_8_method_12_code 149 = .ok (.getfield 72, 3) := by decide +kernel
theorem d_Md_mine_152 : decode prog_8_method_12_code 152 = .ok (.if_icmp .ge 39, 3) := by decide +kernel
theorem d_Md_mine_155 : decode prog_8_method_12_code 155 = .ok (.aload_n 0, 1) := by decide +kernel
theorem d_Md_mine_156 : decode prog_8_method_12_code 156 = .ok (.getfield 19, 3) := by decide +kernel
theorem d_Md_mine_159 : decode prog_8_method_12_code 159 = .ok (.bipush 14, 2) := by decide +kernel
theorem d_Md_mine_161 : decode prog_8_method_12_code 161 = .ok (.iload_n 1, 1) := by decide +kernel
theorem d_Md_mine_162 : decode prog_8_method_12_code 162 = .ok (.iadd, 1) := by decide +kernel
theorem d_Md_mine_163 : decode prog_8_method_12_code 163 = .ok (.aload_n 0, 1) := by decide +kernel
theorem d_Md_mine_164 : decode prog_8_method_12_code 164 = .ok (.getfield 37, 3) := by decide +kernel
theorem d_Md_mine_167 : decode prog_8_method_12_code 167 = .ok (.iload_n 1, 1) := by decide +kernel
theorem d_Md_mine_168 : decode prog_8_method_12_code 168 = .ok (.iaload, 1) := by decide +kernel
theorem d_Md_mine_169 : decode prog_8_method_12_code 169 = .ok (.iastore, 1) := by decide +kernel
theorem d_Md_mine_170 : decode prog_8_method_12_code 170 = .ok (.aload_n 0, 1) := by decide +kernel
theorem d_Md_mine_171 : decode prog_8_method_12_code 171 = .ok (.getfield 22, 3) := by decide +kernel
theorem d_Md_mine_174 : decode prog_8_method_12_code 174 = .ok (.bipush 14, 2) := by decide +kernel
theorem d_Md_mine_176 : decode prog_8_method_12_code 176 = .ok (.iload_n 1, 1) := by decide +kernel
theorem d_Md_mine_177 : decode prog_8_method_12_code 177 = .ok (.iadd, 1) := by decide +kernel
theorem d_Md_mine_178 : decode prog_8_method_12_code 178 = .ok (.aload_n 0, 1) := by decide +kernel
theorem d_Md_mine_179 : decode prog_8_method_12_code 179 = .ok (.getfield 40, 3) := by decide +kernel
theorem d_Md_mine_182 : decode prog_8_method_12_code 182 = .ok (.iload_n 1, 1) := by decide +kernel
theorem d_Md_mine_183 : decode prog_8_method_12_code 183 = .ok (.iaload, 1) := by decide +kernel
theorem d_Md_mine_184 : decode prog_8_method_12_code 184 = .ok (.iastore, 1) := by decide +kernel
theorem d_Md_mine_185 : decode prog_8_method_12_code 185 = .ok (.iinc 1 1, 3) := by decide +kernel
theorem d_Md_mine_188 : decode prog_8_method_12_code 188 = .ok (.goto (-41), 3) := by decide +kernel
theorem d_Md_mine_191 : decode prog_8_method_12_code 191 = .ok (.aload_n 0, 1) := by decide +kernel
theorem d_Md_mine_192 : decode prog_8_method_12_code 192 = .ok (.getfield 16, 3) := by decide +kernel
theorem d_Md_mine_195 : decode prog_8_method_12_code 195 = .ok (.iconst 1, 1) := by decide +kernel
theorem d_Md_mine_196 : decode prog_8_method_12_code 196 = .ok (.aload_n 0, 1) := by decide +kernel
theorem d_Md_mine_197 : decode prog_8_method_12_code 197 = .ok (.getfield 72, 3) := by decide +kernel
theorem d_Md_mine_200 : decode prog_8_method_12_code 200 = .ok (.iastore, 1) := by decide +kernel
theorem d_Md_mine_201 : decode prog_8_method_12_code 201 = .ok (.aload_n 0, 1) := by decide +kernel
theorem d_Md_mine_202 : decode prog_8_method_12_code 202 = .ok (.getfield 25, 3) := by decide +kernel
theorem d_Md_mine_205 : decode prog_8_method_12_code 205 = .ok (.iconst 1, 1) := by decide +kernel
theorem d_Md_mine_206 : decode prog_8_method_12_code 206 = .ok (.iconst 0, 1) := by decide +kernel
theorem d_Md_mine_207 : decode prog_8_method_12_code 207 = .ok (.iastore, 1) := by decide +kernel
theorem d_Md_mine_208 : decode prog_8_method_12_code 208 = .ok (.aload_n 0, 1) := by decide +kernel
theorem d_Md_mine_209 : decode prog_8_method_12_code 209 = .ok (.getfield 28, 3) := by decide +kernel
theorem d_Md_mine_212 : decode prog_8_method_12_code 212 = .ok (.iconst 1, 1) := by decide +kernel
theorem d_Md_mine_213 : decode prog_8_method_12_code 213 = .ok (.iconst 0, 1) := by decide +kernel
theorem d_Md_mine_214 : decode prog_8_method_12_code 214 = .ok (.iastore, 1) := by decide +kernel
theorem d_Md_mine_215 : decode prog_8_method_12_code 215 = .ok (.aload_n 0, 1) := by decide +kernel
theorem d_Md_mine_216 : decode prog_8_method_12_code 216 = .ok (.getfield 31, 3) := by decide +kernel
theorem d_Md_mine_219 : decode prog_8_method_12_code 219 = .ok (.iconst 1, 1) := by decide +kernel
theorem d_Md_mine_220 : decode prog_8_method_12_code 220 = .ok (.iconst 0, 1) := by decide +kernel
theorem d_Md_mine_221 : decode prog_8_method_12_code 221 = .ok (.iastore, 1) := by decide +kernel
theorem d_Md_mine_222 : decode prog_8_method_12_code 222 = .ok (.iconst 0, 1) := by decide +kernel
theorem d_Md_mine_223 : decode prog_8_method_12_code 223 = .ok (.istore_n 1, 1) := by decide +kernel
theorem d_Md_mine_224 : decode prog_8_method_12_code 224 = .ok (.iload_n 1, 1) := by decide +kernel
theorem d_Md_mine_225 : decode prog_8_method_12_code 225 = .ok (.aload_n 0, 1) := by decide +kernel
theorem d_Md_mine_226 : decode prog_8_method_12_code 226 = .ok (.getfield 58, 3) := by decide +kernel
theorem d_Md_mine_229 : decode prog_8_method_12_code 229 = .ok (.if_icmp .ge 95, 3) := by decide +kernel
theorem d_Md_mine_232 : decode prog_8_method_12_code 232 = .ok (.iconst 0, 1) := by decide +kernel
theorem d_Md_mine_233 : decode prog_8_method_12_code 233 = .ok (.istore_n 2, 1) := by decide +kernel
theorem d_Md_mine_234 : decode prog_8_method_12_code 234 = .ok (.iload_n 2, 1) := by decide +kernel
theorem d_Md_mine_235 : decode prog_8_method_12_code 235 = .ok (.aload_n 0, 1) := by decide +kernel
theorem d_Md_mine_236 : decode prog_8_method_12_code 236 = .ok (.getfield 7, 3) := by decide +kernel
theorem d_Md_mine_239 : decode prog_8_method_12_code 239 = .ok (.iload_n 1, 1) := by decide +kernel
theorem d_Md_mine_240 : decode prog_8_method_12_code 240 = .ok (.iaload, 1) := by decide +kernel
theorem d_Md_mine_241 : decode prog_8_method_12_code 241 = .ok (.if_icmp .ge 77, 3) := by decide +kernel
theorem d_Md_mine_244 : decode prog_8_method_12_code 244 = .ok (.iconst 1, 1) := by decide +kernel
theorem d_Md_mine_245 : decode prog_8_method_12_code 245 = .ok (.aload_n 0, 1) := by decide +kernel
theorem d_Md_mine_246 : decode prog_8_method_12_code 246 = .ok (.getfield 13, 3) := by decide +kernel
theorem d_Md_mine_249 : decode prog_8_method_12_code 249 = .ok (.bipush 15, 2) := by decide +kernel
theorem d_Md_mine_251 : decode prog_8_method_12_code 251 = .ok (.iload_n 1, 1) := by decide +kernel
theorem d_Md_mine_252 : decode prog_8_method_12_code 252 = .ok (.imul, 1) := by decide +kernel
theorem d_Md_mine_253 : decode prog_8_method_12_code 253 = .ok (.iload_n 2, 1) := by decide +kernel
theorem d_Md_mine_254 : decode prog_8_method_12_code 254 = .ok (.iadd, 1) := by decide +kernel
theorem d_Md_mine_255 : decode prog_8_method_12_code 255 = .ok (.iaload, 1) := by decide +kernel
theorem d_Md_mine_256 : decode prog_8_method_12_code 256 = .ok (.ishl, 1) := by decide +kernel
theorem d_Md_mine_257 : decode prog_8_method_12_code 257 = .ok (.istore_n 3, 1) := by decide +kernel
theorem d_Md_mine_258 : decode prog_8_method_12_code 258 = .ok (.aload_n 0, 1) := by decide +kernel
theorem d_Md_mine_259 : decode prog_8_method_12_code 259 = .ok (.getfield 31, 3) := by decide +kernel
theorem d_Md_mine_262 : decode prog_8_method_12_code 262 = .ok (.iconst 1, 1) := by decide +kernel
theorem d_Md_mine_263 : decode prog_8_method_12_code 263 = .ok (.dup2, 1) := by decide +kernel
theorem d_Md_mine_264 : decode prog_8_method_12_code 264 = .ok (.iaload, 1) := by decide +kernel
theorem d_Md_mine_265 : decode prog_8_method_12_code 265 = .ok (.iload_n 3, 1) := by decide +kernel
theorem d_Md_mine_266 : decode prog_8_method_12_code 266 = .ok (.ior, 1) := by decide +kernel
theorem d_Md_mine_267 : decode prog_8_method_12_code 267 = .ok (.iastore, 1) := by decide +kernel
theorem d_Md_mine_268 : decode prog_8_method_12_code 268 = .ok (.aload_n 0, 1) := by decide +kernel
theorem d_Md_mine_269 : decode prog_8_method_12_code 269 = .ok (.getfield 25, 3) := by decide +kernel
theorem d_Md_mine_272 : decode prog_8_method_12_code 272 = .ok (.iconst 1, 1) := by decide +kernel
theorem d_Md_mine_273 : decode prog_8_method_12_code 273 = .ok (.dup2, 1) := by decide +kernel
theorem d_Md_mine_274 : decode prog_8_method_12_code 274 = .ok (.iaload, 1) := by decide +kernel
theorem d_Md_mine_275 : decode prog_8_method_12_code 275 = .ok (.iload_n 2, 1) := by decide +kernel
theorem d_Md_mine_276 : decode prog_8_method_12_code 276 = .ok (.ifCond .ne 7, 3) := by decide +kernel
theorem d_Md_mine_279 : decode prog_8_method_12_code 279 = .ok (.iload_n 3, 1) := by decide +kernel
theorem d_Md_mine_280 : decode prog_8_method_12_code 280 = .ok (.goto 4, 3) := by decide +kernel
theorem d_Md_mine_283 : decode prog_8_method_12_code 283 = .ok (.iconst 0, 1) := by decide +kernel
theorem d_Md_mine_284 : decode prog_8_method_12_code 284 = .ok (.ior, 1) := by decide +kernel
theorem d_Md_mine_285 : decode prog_8_method_12_code 285 = .ok (.iastore, 1) := by decide +kernel
theorem d_Md_mine_286 : decode prog_8_method_12_code 286 = .ok (.aload_n 0, 1) := by decide +kernel
theorem d_Md_mine_287 : decode prog_8_method_12_code 287 = .ok (.getfield 28, 3) := by decide +kernel
theorem d_Md_mine_290 : decode prog_8_method_12_code 290 = .ok (.iconst 1, 1) := by decide +kernel
theorem d_Md_mine_291 : decode prog_8_method_12_code 291 = .ok (.dup2, 1) := by decide +kernel
theorem d_Md_mine_292 : decode prog_8_method_12_code 292 = .ok (.iaload, 1) := by decide +kernel
theorem d_Md_mine_293 : decode prog_8_method_12_code 293 = .ok (.iload_n 2, 1) := by decide +kernel
theorem d_Md_mine_294 : decode prog_8_method_12_code 294 = .ok (.aload_n 0, 1) := by decide +kernel
theorem d_Md_mine_295 : decode prog_8_method_12_code 295 = .ok (.getfield 7, 3) := by decide +kernel
theorem d_Md_mine_298 : decode prog_8_method_12_code 298 = .ok (.iload_n 1, 1) := by decide +kernel
theorem d_Md_mine_299 : decode prog_8_method_12_code 299 = .ok (.iaload, 1) := by decide +kernel
theorem d_Md_mine_300 : decode prog_8_method_12_code 300 = .ok (.iconst 1, 1) := by decide +kernel
theorem d_Md_mine_301 : decode prog_8_method_12_code 301 = .ok (.isub, 1) := by decide +kernel
theorem d_Md_mine_302 : decode prog_8_method_12_code 302 = .ok (.if_icmp .ne 7, 3) := by decide +kernel
theorem d_Md_mine_305 : decode prog_8_method_12_code 305 = .ok (.iload_n 3, 1) := by decide +kernel
theorem d_Md_mine_306 : decode prog_8_method_12_code 306 = .ok (.goto 4, 3) := by decide +kernel
theorem d_Md_mine_309 : decode prog_8_method_12_code 309 = .ok (.iconst 0, 1) := by decide +kernel
theorem d_Md_mine_310 : decode prog_8_method_12_code 310 = .ok (.ior, 1) := by decide +kernel
theorem d_Md_mine_311 : decode prog_8_method_12_code 311 = .ok (.iastore, 1) := by decide +kernel
theorem d_Md_mine_312 : decode prog_8_method_12_code 312 = .ok (.iinc 2 1, 3) := by decide +kernel
theorem d_Md_mine_315 : decode prog_8_method_12_code 315 = .ok (.goto (-81), 3) := by decide +kernel
theorem d_Md_mine_318 : decode prog_8_method_12_code 318 = .ok (.iinc 1 1, 3) := by decide +kernel
theorem d_Md_mine_321 : decode prog_8_method_12_code 321 = .ok (.goto (-97), 3) := by decide +kernel
theorem d_Md_mine_324 : decode prog_8_method_12_code 324 = .ok (.aload_n 0, 1) := by decide +kernel
theorem d_Md_mine_325 : decode prog_8_method_12_code 325 = .ok (.getfield 72, 3) := by decide +kernel
theorem d_Md_mine_328 : decode prog_8_method_12_code 328 = .ok (.ireturn, 1) := by decide +kernel
set_option maxRecDepth 20000 in
set_option maxHeartbeats 4000000 in
theorem cD_mineF (E : fk_E) (b0 : Nat) (b1 : Nat) (b2 : Nat) (b3 : Nat) (b4 : Nat) (b5 : Nat) (b6 : Nat) (b7 : Nat) (b8 : Nat) (b9 : Nat) (b10 : Nat) (b11 : Nat) (b12 : Nat) (b13 : Nat) (b14 : Nat) (b15 : Nat) (mt : Nat) (mf : Nat) (my : Nat) (mw : Bool) (len : Nat → Nat) (ev : Nat → Nat) (mc : Nat → Nat) (mi : Nat → Nat) (mu : Nat → Nat) (mfi : Nat → Nat) (mla : Nat → Nat) (mac : Nat → Nat) (mtb : Nat → Nat) (mfx : Nat → Nat) (mfy : Nat → Nat) (hN : fr_N mc mi mu mfi mla) (ht : mt ≤ 20) (hl : ∀ t, t < mt → len t ≤ 15) (he : ∀ t, t < mt → ∀ i, i < len t → ev (15 * t + i) < 7) (hb : 14 < (fg_L (fg_fl mt len ev) 16384).length) : fk_C E fy_Md_mine prog_8_method_12_code 4 (some .int) 3 0 0 [.ref b0] [(b0, .inr (6, [.int (nI mt), .ref b1, .ref b2, .ref b3, .ref b4, .ref b5, .ref b6, .ref b7, .ref b8, .ref b9, .int (nI mf), .ref b10, .ref b11, .ref b12, .int (nI my), .int (nI (Bool.toNat mw)), .ref b13, .ref b14, .ref b15])), fk_ai E b1 20 len, fk_ai E b2 300 ev, fk_ai E b3 2 mc, fk_ai E b4 28 mi, fk_ai E b5 28 mu, fk_ai E b6 2 mfi, fk_ai E b7 2 mla, fk_ai E b8 2 mac, fk_ai E b9 49 mtb, fk_ai E b10 15 mfx, fk_ai E b11 15 mfy] (S := Nat × (Nat → Nat) × (Nat → Nat) × (Nat → Nat)) (fun (u : Nat × (Nat → Nat) × (Nat → Nat) × (Nat → Nat)) => some (.int (-2))) (fun (u : Nat × (Nat → Nat) × (Nat → Nat) × (Nat → Nat)) => True) (fun (u : Nat × (Nat → Nat) × (Nat → Nat) × (Nat → Nat)) => [(b0, .inr (6, [.int (nI mt), .ref b1, .ref b2, .ref b3, .ref b4, .ref b5, .ref b6, .ref b7, .ref b8, .ref b9, .int (nI u.1), .ref b10, .ref b11, .ref b12, .int (nI my), .int (nI (Bool.toNat mw)), .ref b13, .ref b14, .ref b15])), fk_ai E b1 20 len, fk_ai E b2 300 ev, fk_ai E b3 2 mc, fk_ai E b4 28 mi, fk_ai E b5 28 mu, fk_ai E b6 2 mfi, fk_ai E b7 2 mla, fk_ai E b8 2 mac, fk_ai E b9 49 u.2.1, fk_ai E b10 15 u.2.2.1, fk_ai E b11 15 u.2.2.2]) := by
  refine fk_enterI (v := fun (u : Nat × (Nat → Nat) × (Nat → Nat) × (Nat → Nat)) => (-2)) (by decide) (Nat.le_of_ble_eq_true rfl) (lv0 := [(0, .ref b0)]) rfl ?_
  intro K hini hret
  refine fk_aload_n 0 d_Md_mine_0 rfl ?_
  refine fk_iconst (v := nI 0) d_Md_mine_1 (by decide +kernel) ?_
  refine fk_put (w' := [(b0, .inr (6, [.int (nI mt), .ref b1, .ref b2, .ref b3, .ref b4, .ref b5, .ref b6, .ref b7, .ref b8, .ref b9, .int (nI 0), .ref b10, .ref b11, .ref b12, .int (nI my), .int (nI (Bool.toNat mw)), .ref b13, .ref b14, .ref b15])), fk_ai E b1 20 len, fk_ai E b2 300 ev, fk_ai E b3 2 mc, fk_ai E b4 28 mi, fk_ai E b5 28 mu, fk_ai E b6 2 mfi, fk_ai E b7 2 mla, fk_ai E b8 2 mac, fk_ai E b9 49 mtb, fk_ai E b10 15 mfx, fk_ai E b11 15 mfy]) 0 10 fT_Md fT_Md_ok fT_Md_nm rfl rfl fh_Md (Nat.le_of_ble_eq_true rfl) fw_517 rfl (fT_Md_ok 10 (Nat.le_of_ble_eq_true rfl)) rfl rfl (Nat.le_of_ble_eq_true rfl) d_Md_mine_2 rfl ?_
  refine fk_iconst (v := nI 0) d_Md_mine_5 (by decide +kernel) ?_
  refine fk_istore_n (lv' := [(0, .ref b0), (1, .int (nI 0))]) d_Md_mine_6 rfl (Nat.le_of_ble_eq_true rfl) [1, 0] rfl ?_
  have L7 : ∀ (fuel : Nat) (k : Nat) (b1_ : Nat → Nat), (k ≤ 49) → (∀ a, a < 7 → ∀ b, b < 7 → 7 * a + b < k → b1_ (7 * a + b) = Bool.toNat ((fg_fl mt len ev) a b) + 2 * Bool.toNat ((fg_fl mt len ev) b a)) → 49 - k < fuel → fk_V E (prog_8_method_12_code, fy_Md_mine.cls, 4, fk_rm 3 0 0) K (0, 0) [(b0, .inr (6, [.int (nI mt), .ref b1, .ref b2, .ref b3, .ref b4, .ref b5, .ref b6, .ref b7, .ref b8, .ref b9, .int (nI 0), .ref b10, .ref b11, .ref b12, .int (nI my), .int (nI (Bool.toNat mw)), .ref b13, .ref b14, .ref b15])), fk_ai E b1 20 len, fk_ai E b2 300 ev, fk_ai E b3 2 mc, fk_ai E b4 28 mi, fk_ai E b5 28 mu, fk_ai E b6 2 mfi, fk_ai E b7 2 mla, fk_ai E b8 2 mac, fk_ai E b9 49 b1_, fk_ai E b10 15 mfx, fk_ai E b11 15 mfy] 7 [(0, .ref b0), (1, .int (nI k))] [] := by
    intro fuel
    induction fuel with
    | zero => intro k b1_ _ _ hm; exact absurd hm (Nat.not_lt_zero _)
    | succ fuel ih =>
      intro k b1_ h1 h2 hm7
      have ih7 := ih
      clear ih
      refine fk_iload_n 1 d_Md_mine_7 rfl ?_
      refine fk_bipush (v := nI 49) d_Md_mine_8 (by decide +kernel) ?_
      refine fk_icmp_ge (a := k) (b := 49) (by omega) (by omega) d_Md_mine_10 rfl (fun h10t => ?_) (fun h10f => ?_)
      · have g0 : ∀ a, a < 7 → ∀ b, b < 7 → b1_ (7 * a + b) = Bool.toNat ((fg_fl mt len ev) a b) + 2 * Bool.toNat ((fg_fl mt len ev) b a) := fun a ha b hb => h2 a ha b hb (by omega)
        refine fk_iconst (v := nI 1) d_Md_mine_37 (by decide +kernel) ?_
        refine fk_istore_n (lv' := [(0, .ref b0), (1, .int (nI 1))]) d_Md_mine_38 rfl (Nat.le_of_ble_eq_true rfl) [1, 0] rfl ?_
        have L39 : ∀ (fuel : Nat) (l : Nat) (n1 : Nat) (x1 : Nat → Nat) (y1 : Nat → Nat), (0 < l) → (l ≤ 128) → (fr_P (fg_fl mt len ev) (128 * l) n1 x1 y1) → 128 - l < fuel → fk_V E (prog_8_method_12_code, fy_Md_mine.cls, 4, fk_rm 3 0 0) K (0, 0) [(b0, .inr (6, [.int (nI mt), .ref b1, .ref b2, .ref b3, .ref b4, .ref b5, .ref b6, .ref b7, .ref b8, .ref b9, .int (nI n1), .ref b10, .ref b11, .ref b12, .int (nI my), .int (nI (Bool.toNat mw)), .ref b13, .ref b14, .ref b15])), fk_ai E b1 20 len, fk_ai E b2 300 ev, fk_ai E b3 2 mc, fk_ai E b4 28 mi, fk_ai E b5 28 mu, fk_ai E b6 2 mfi, fk_ai E b7 2 mla, fk_ai E b8 2 mac, fk_ai E b9 49 b1_, fk_ai E b10 15 x1, fk_ai E b11 15 y1] 39 [(0, .ref b0), (1, .int (nI l))] [] := by
          intro fuel
          induction fuel with
          | zero => intro l n1 x1 y1 _ _ _ hm; exact absurd hm (Nat.not_lt_zero _)
          | succ fuel ih =>
            intro l n1 x1 y1 h3 h4 h5 hm39
            have ih39 := ih
            clear ih
            have g1 := h5.1
            refine fk_iload_n 1 d_Md_mine_39 rfl ?_
            refine fk_sipush (v := nI 128) d_Md_mine_40 (by decide +kernel) ?_
            refine fk_icmp_ge (a := l) (b := 128) (by omega) (by omega) d_Md_mine_43 rfl (fun h43t => ?_) (fun h43f => ?_)
            · refine fk_aload_n 0 d_Md_mine_133 rfl ?_
              refine fk_get 0 10 rfl rfl fh_Md (Nat.le_of_ble_eq_true rfl) fw_517 rfl d_Md_mine_134 ?_
              refine fk_bipush (v := nI 14) d_Md_mine_137 (by decide +kernel) ?_
              refine fk_icmp_le (a := n1) (b := 14) (by omega) (by omega) d_Md_mine_139 rfl (fun h139t => ?_) (fun h139f => ?_)
              · have g5 : l = 128 := by omega
                rw [g5] at h5
                have w := (h5.2.1 (by omega)).1
                rw [show 128 * 128 = 16384 by decide] at w
                omega
              · refine fk_bipush (v := -2) d_Md_mine_142 (by decide +kernel) ?_
                exact hret (0, 0) _ 144 _ (n1, b1_, x1, y1) d_Md_mine_144 (trivial) (rfl)
            · refine fk_aload_n 0 d_Md_mine_46 rfl ?_
              refine fk_get 0 10 rfl rfl fh_Md (Nat.le_of_ble_eq_true rfl) fw_517 rfl d_Md_mine_47 ?_
              refine fk_bipush (v := nI 15) d_Md_mine_50 (by decide +kernel) ?_
              refine fk_icmp_ge (a := n1) (b := 15) (by omega) (by omega) d_Md_mine_52 rfl (fun h52t => ?_) (fun h52f => ?_)
              · refine fk_aload_n 0 d_Md_mine_133 rfl ?_
                refine fk_get 0 10 rfl rfl fh_Md (Nat.le_of_ble_eq_true rfl) fw_517 rfl d_Md_mine_134 ?_
                refine fk_bipush (v := nI 14) d_Md_mine_137 (by decide +kernel) ?_
                refine fk_icmp_le (a := n1) (b := 14) (by omega) (by omega) d_Md_mine_139 rfl (fun h139t => ?_) (fun h139f => ?_)
                · have g5 : l = 128 := by omega
                  rw [g5] at h5
                  have w := (h5.2.1 (by omega)).1
                  rw [show 128 * 128 = 16384 by decide] at w
                  omega
                · refine fk_bipush (v := -2) d_Md_mine_142 (by decide +kernel) ?_
                  exact hret (0, 0) _ 144 _ (n1, b1_, x1, y1) d_Md_mine_144 (trivial) (rfl)
              · refine fk_iconst (v := nI 1) d_Md_mine_55 (by decide +kernel) ?_
                refine fk_istore_n (lv' := [(0, .ref b0), (1, .int (nI l)), (2, .int (nI 1))]) d_Md_mine_56 rfl (Nat.le_of_ble_eq_true rfl) [1, 2, 0] rfl ?_
                have L57 : ∀ (fuel : Nat) (r : Nat) (n2 : Nat) (x2 : Nat → Nat) (y2 : Nat → Nat), (0 < r) → (r ≤ 128) → (fr_P (fg_fl mt len ev) (128 * l + r) n2 x2 y2) → 128 - r < fuel → fk_V E (prog_8_method_12_code, fy_Md_mine.cls, 4, fk_rm 3 0 0) K (0, 0) [(b0, .inr (6, [.int (nI mt), .ref b1, .ref b2, .ref b3, .ref b4, .ref b5, .ref b6, .ref b7, .ref b8, .ref b9, .int (nI n2), .ref b10, .ref b11, .ref b12, .int (nI my), .int (nI (Bool.toNat mw)), .ref b13, .ref b14, .ref b15])), fk_ai E b1 20 len, fk_ai E b2 300 ev, fk_ai E b3 2 mc, fk_ai E b4 28 mi, fk_ai E b5 28 mu, fk_ai E b6 2 mfi, fk_ai E b7 2 mla, fk_ai E b8 2 mac, fk_ai E b9 49 b1_, fk_ai E b10 15 x2, fk_ai E b11 15 y2] 57 [(0, .ref b0), (1, .int (nI l)), (2, .int (nI r))] [] := by
                  intro fuel
                  induction fuel with
                  | zero => intro r n2 x2 y2 _ _ _ hm; exact absurd hm (Nat.not_lt_zero _)
                  | succ fuel ih =>
                    intro r n2 x2 y2 h6 h7 h8 hm57
                    have ih57 := ih
                    clear ih
                    have g2 := h8.1
                    refine fk_iload_n 2 d_Md_mine_57 rfl ?_
                    refine fk_sipush (v := nI 128) d_Md_mine_58 (by decide +kernel) ?_
                    refine fk_icmp_ge (a := r) (b := 128) (by omega) (by omega) d_Md_mine_61 rfl (fun h61t => ?_) (fun h61f => ?_)
                    · refine fk_iinc (j := 1) (lv' := [(0, .ref b0), (1, .int (nI (l + 1))), (2, .int (nI r))]) (l + 1) d_Md_mine_127 rfl (nI_1 l) (Nat.le_of_ble_eq_true rfl) [1, 0, 2] rfl ?_
                      refine fk_goto d_Md_mine_130 rfl ?_
                      refine fk_lv (lv' := [(0, .ref b0), (1, .int (nI (l + 1)))]) [0, 1] rfl ?_
                      refine ih39 _ _ _ _ ?_ ?_ ?_ ?_
                      · first | omega | assumption | exact Nat.zero_le _
                      · first | omega | assumption | exact Nat.zero_le _
                      · first | (rw [show 128 * (l + 1) = 128 * l + r by omega]; exact h8) | exact fr_P_any h8 (by omega)
                      · omega
                    · refine fk_aload_n 0 d_Md_mine_64 rfl ?_
                      refine fk_get 0 10 rfl rfl fh_Md (Nat.le_of_ble_eq_true rfl) fw_517 rfl d_Md_mine_65 ?_
                      refine fk_bipush (v := nI 15) d_Md_mine_68 (by decide +kernel) ?_
                      refine fk_icmp_ge (a := n2) (b := 15) (by omega) (by omega) d_Md_mine_70 rfl (fun h70t => ?_) (fun h70f => ?_)
                      · refine fk_iinc (j := 1) (lv' := [(0, .ref b0), (1, .int (nI (l + 1))), (2, .int (nI r))]) (l + 1) d_Md_mine_127 rfl (nI_1 l) (Nat.le_of_ble_eq_true rfl) [1, 0, 2] rfl ?_
                        refine fk_goto d_Md_mine_130 rfl ?_
                        refine fk_lv (lv' := [(0, .ref b0), (1, .int (nI (l + 1)))]) [0, 1] rfl ?_
                        refine ih39 _ _ _ _ ?_ ?_ ?_ ?_
                        · first | omega | assumption | exact Nat.zero_le _
                        · first | omega | assumption | exact Nat.zero_le _
                        · first | (rw [show 128 * (l + 1) = 128 * l + r by omega]; exact h8) | exact fr_P_any h8 (by omega)
                        · omega
                      · have g3 : fg_Q (fg_fl mt len ev) (128 * l + r) = (fg_C (fg_fl mt len ev) l r && fg_G (fg_fl mt len ev) l r) := fg_Q_eq h61f
                        refine fk_aload_n 0 d_Md_mine_73 rfl ?_
                        refine fk_iload_n 1 d_Md_mine_74 rfl ?_
                        refine fk_iload_n 2 d_Md_mine_75 rfl ?_
                        refine fk_callV (q0 := 0) (As := [.int (nI l), .int (nI r)]) (rest := []) (is := [0, 9]) (ir := [1, 2, 3, 4, 5, 6, 7, 8, 10, 11]) (ip := [10, 0, 1, 2, 3, 4, 5, 6, 7, 11, 8, 9]) (wc := [(b0, .inr (6, [.int (nI mt), .ref b1, .ref b2, .ref b3, .ref b4, .ref b5, .ref b6, .ref b7, .ref b8, .ref b9, .int (nI n2), .ref b10, .ref b11, .ref b12, .int (nI my), .int (nI (Bool.toNat mw)), .ref b13, .ref b14, .ref b15])), fk_ai E b9 49 b1_]) (wr := [fk_ai E b1 20 len, fk_ai E b2 300 ev, fk_ai E b3 2 mc, fk_ai E b4 28 mi, fk_ai E b5 28 mu, fk_ai E b6 2 mfi, fk_ai E b7 2 mla, fk_ai E b8 2 mac, fk_ai E b10 15 x2, fk_ai E b11 15 y2]) (w2 := fun _ => [(b0, .inr (6, [.int (nI mt), .ref b1, .ref b2, .ref b3, .ref b4, .ref b5, .ref b6, .ref b7, .ref b8, .ref b9, .int (nI n2), .ref b10, .ref b11, .ref b12, .int (nI my), .int (nI (Bool.toNat mw)), .ref b13, .ref b14, .ref b15])), fk_ai E b1 20 len, fk_ai E b2 300 ev, fk_ai E b3 2 mc, fk_ai E b4 28 mi, fk_ai E b5 28 mu, fk_ai E b6 2 mfi, fk_ai E b7 2 mla, fk_ai E b8 2 mac, fk_ai E b9 49 b1_, fk_ai E b10 15 x2, fk_ai E b11 15 y2]) (cD_causal E b0 b1 b2 b3 b4 b5 b6 b7 b8 b9 b10 b11 b12 b13 b14 b15 mt n2 my mw b1_ (fg_fl mt len ev) l r g0 (by first | omega | assumption) (by first | omega | assumption)) d_Md_mine_76 fz_Md_causal fw_600 rfl rfl fw_602 fw_p17 ⟨Nat.le_of_ble_eq_true rfl, Nat.le_of_ble_eq_true rfl⟩ rfl (Nat.le_of_ble_eq_true rfl) ⟨Nat.zero_le _, Nat.zero_le _⟩ ⟨rfl, rfl, rfl, rfl, by decide, fun _ => rfl, rfl⟩ (fun u hu76 => ?_)
                        show fk_V E _ K (0, 0) [(b0, .inr (6, [.int (nI mt), .ref b1, .ref b2, .ref b3, .ref b4, .ref b5, .ref b6, .ref b7, .ref b8, .ref b9, .int (nI n2), .ref b10, .ref b11, .ref b12, .int (nI my), .int (nI (Bool.toNat mw)), .ref b13, .ref b14, .ref b15])), fk_ai E b1 20 len, fk_ai E b2 300 ev, fk_ai E b3 2 mc, fk_ai E b4 28 mi, fk_ai E b5 28 mu, fk_ai E b6 2 mfi, fk_ai E b7 2 mla, fk_ai E b8 2 mac, fk_ai E b9 49 b1_, fk_ai E b10 15 x2, fk_ai E b11 15 y2] 79 [(0, .ref b0), (1, .int (nI l)), (2, .int (nI r))] [.int (nI (Bool.toNat (fg_C (fg_fl mt len ev) l r)))]
                        refine fk_if_eqB (b := (fg_C (fg_fl mt len ev) l r)) d_Md_mine_79 rfl (fun h79t => ?_) (fun h79f => ?_)
                        · refine fk_iinc (j := 2) (lv' := [(0, .ref b0), (1, .int (nI l)), (2, .int (nI (r + 1)))]) (r + 1) d_Md_mine_121 rfl (nI_1 r) (Nat.le_of_ble_eq_true rfl) [1, 2, 0] rfl ?_
                          refine fk_goto d_Md_mine_124 rfl ?_
                          refine ih57 _ _ _ _ ?_ ?_ ?_ ?_
                          · first | omega | assumption | exact Nat.zero_le _
                          · first | omega | assumption | exact Nat.zero_le _
                          · rw [← Nat.add_assoc]
                            first | exact fr_P_f h8 (by rw [g3, h79t, Bool.false_and]) | exact fr_P_f h8 (by rw [g3, h88t, Bool.and_false]) | (have w := fr_P_t h8 h70f (by rw [g3, h79f, h88f, Bool.and_self]) (by omega); rw [show (128 * l + r) / 128 = l by omega, show (128 * l + r) % 128 = r by omega] at w; exact w)
                          · omega
                        · refine fk_aload_n 0 d_Md_mine_82 rfl ?_
                          refine fk_iload_n 1 d_Md_mine_83 rfl ?_
                          refine fk_iload_n 2 d_Md_mine_84 rfl ?_
                          refine fk_callV (q0 := 0) (As := [.int (nI l), .int (nI r)]) (rest := []) (is := [0, 9]) (ir := [1, 2, 3, 4, 5, 6, 7, 8, 10, 11]) (ip := [10, 0, 1, 2, 3, 4, 5, 6, 7, 11, 8, 9]) (wc := [(b0, .inr (6, [.int (nI mt), .ref b1, .ref b2, .ref b3, .ref b4, .ref b5, .ref b6, .ref b7, .ref b8, .ref b9, .int (nI n2), .ref b10, .ref b11, .ref b12, .int (nI my), .int (nI (Bool.toNat mw)), .ref b13, .ref b14, .ref b15])), fk_ai E b9 49 b1_]) (wr := [fk_ai E b1 20 len, fk_ai E b2 300 ev, fk_ai E b3 2 mc, fk_ai E b4 28 mi, fk_ai E b5 28 mu, fk_ai E b6 2 mfi, fk_ai E b7 2 mla, fk_ai E b8 2 mac, fk_ai E b10 15 x2, fk_ai E b11 15 y2]) (w2 := fun _ => [(b0, .inr (6, [.int (nI mt), .ref b1, .ref b2, .ref b3, .ref b4, .ref b5, .ref b6, .ref b7, .ref b8, .ref b9, .int (nI n2), .ref b10, .ref b11, .ref b12, .int (nI my), .int (nI (Bool.toNat mw)), .ref b13, .ref b14, .ref b15])), fk_ai E b1 20 len, fk_ai E b2 300 ev, fk_ai E b3 2 mc, fk_ai E b4 28 mi, fk_ai E b5 28 mu, fk_ai E b6 2 mfi, fk_ai E b7 2 mla, fk_ai E b8 2 mac, fk_ai E b9 49 b1_, fk_ai E b10 15 x2, fk_ai E b11 15 y2]) (cD_greatest E b0 b1 b2 b3 b4 b5 b6 b7 b8 b9 b10 b11 b12 b13 b14 b15 mt n2 my mw b1_ (fg_fl mt len ev) l r g0 (by first | omega | assumption) (by first | omega | assumption)) d_Md_mine_85 fz_Md_greatest fw_607 rfl rfl fw_609 fw_p18 ⟨Nat.le_of_ble_eq_true rfl, Nat.le_of_ble_eq_true rfl⟩ rfl (Nat.le_of_ble_eq_true rfl) ⟨Nat.zero_le _, Nat.zero_le _⟩ ⟨rfl, rfl, rfl, rfl, by decide, fun _ => rfl, rfl⟩ (fun u hu85 => ?_)
                          show fk_V E _ K (0, 0) [(b0, .inr (6, [.int (nI mt), .ref b1, .ref b2, .ref b3, .ref b4, .ref b5, .ref b6, .ref b7, .ref b8, .ref b9, .int (nI n2), .ref b10, .ref b11, .ref b12, .int (nI my), .int (nI (Bool.toNat mw)), .ref b13, .ref b14, .ref b15])), fk_ai E b1 20 len, fk_ai E b2 300 ev, fk_ai E b3 2 mc, fk_ai E b4 28 mi, fk_ai E b5 28 mu, fk_ai E b6 2 mfi, fk_ai E b7 2 mla, fk_ai E b8 2 mac, fk_ai E b9 49 b1_, fk_ai E b10 15 x2, fk_ai E b11 15 y2] 88 [(0, .ref b0), (1, .int (nI l)), (2, .int (nI r))] [.int (nI (Bool.toNat (fg_G (fg_fl mt len ev) l r)))]
                          refine fk_if_eqB (b := (fg_G (fg_fl mt len ev) l r)) d_Md_mine_88 rfl (fun h88t => ?_) (fun h88f => ?_)
                          · refine fk_iinc (j := 2) (lv' := [(0, .ref b0), (1, .int (nI l)), (2, .int (nI (r + 1)))]) (r + 1) d_Md_mine_121 rfl (nI_1 r) (Nat.le_of_ble_eq_true rfl) [1, 2, 0] rfl ?_
                            refine fk_goto d_Md_mine_124 rfl ?_
                            refine ih57 _ _ _ _ ?_ ?_ ?_ ?_
                            · first | omega | assumption | exact Nat.zero_le _
                            · first | omega | assumption | exact Nat.zero_le _
                            · rw [← Nat.add_assoc]
                              first | exact fr_P_f h8 (by rw [g3, h79t, Bool.false_and]) | exact fr_P_f h8 (by rw [g3, h88t, Bool.and_false]) | (have w := fr_P_t h8 h70f (by rw [g3, h79f, h88f, Bool.and_self]) (by omega); rw [show (128 * l + r) / 128 = l by omega, show (128 * l + r) % 128 = r by omega] at w; exact w)
                            · omega
                          · refine fk_aload_n 0 d_Md_mine_91 rfl ?_
                            refine fk_get 0 11 rfl rfl fh_Md (Nat.le_of_ble_eq_true rfl) fw_518 rfl d_Md_mine_92 ?_
                            refine fk_aload_n 0 d_Md_mine_95 rfl ?_
                            refine fk_get 0 10 rfl rfl fh_Md (Nat.le_of_ble_eq_true rfl) fw_517 rfl d_Md_mine_96 ?_
                            refine fk_iload_n 1 d_Md_mine_99 rfl ?_
                            refine fk_st_ai (i := n2) (x := l) (w' := [(b0, .inr (6, [.int (nI mt), .ref b1, .ref b2, .ref b3, .ref b4, .ref b5, .ref b6, .ref b7, .ref b8, .ref b9, .int (nI n2), .ref b10, .ref b11, .ref b12, .int (nI my), .int (nI (Bool.toNat mw)), .ref b13, .ref b14, .ref b15])), fk_ai E b1 20 len, fk_ai E b2 300 ev, fk_ai E b3 2 mc, fk_ai E b4 28 mi, fk_ai E b5 28 mu, fk_ai E b6 2 mfi, fk_ai E b7 2 mla, fk_ai E b8 2 mac, fk_ai E b9 49 b1_, fk_ai E b10 15 (va_up x2 n2 l), fk_ai E b11 15 y2]) 10 rfl (by omega) (by decide) d_Md_mine_100 rfl ?_
                            refine fk_aload_n 0 d_Md_mine_101 rfl ?_
                            refine fk_get 0 12 rfl rfl fh_Md (Nat.le_of_ble_eq_true rfl) fw_519 rfl d_Md_mine_102 ?_
                            refine fk_aload_n 0 d_Md_mine_105 rfl ?_
                            refine fk_get 0 10 rfl rfl fh_Md (Nat.le_of_ble_eq_true rfl) fw_517 rfl d_Md_mine_106 ?_
                            refine fk_iload_n 2 d_Md_mine_109 rfl ?_
                            refine fk_st_ai (i := n2) (x := r) (w' := [(b0, .inr (6, [.int (nI mt), .ref b1, .ref b2, .ref b3, .ref b4, .ref b5, .ref b6, .ref b7, .ref b8, .ref b9, .int (nI n2), .ref b10, .ref b11, .ref b12, .int (nI my), .int (nI (Bool.toNat mw)), .ref b13, .ref b14, .ref b15])), fk_ai E b1 20 len, fk_ai E b2 300 ev, fk_ai E b3 2 mc, fk_ai E b4 28 mi, fk_ai E b5 28 mu, fk_ai E b6 2 mfi, fk_ai E b7 2 mla, fk_ai E b8 2 mac, fk_ai E b9 49 b1_, fk_ai E b10 15 (va_up x2 n2 l), fk_ai E b11 15 (va_up y2 n2 r)]) 11 rfl (by omega) (by decide) d_Md_mine_110 rfl ?_
                            refine fk_aload_n 0 d_Md_mine_111 rfl ?_
                            refine fk_dup d_Md_mine_112 rfl ?_
                            refine fk_get 0 10 rfl rfl fh_Md (Nat.le_of_ble_eq_true rfl) fw_517 rfl d_Md_mine_113 ?_
                            refine fk_iconst (v := nI 1) d_Md_mine_116 (by decide +kernel) ?_
                            refine fk_iadd (a := n2) (b := 1) d_Md_mine_117 ?_
                            refine fk_put (w' := [(b0, .inr (6, [.int (nI mt), .ref b1, .ref b2, .ref b3, .ref b4, .ref b5, .ref b6, .ref b7, .ref b8, .ref b9, .int (nI (n2 + 1)), .ref b10, .ref b11, .ref b12, .int (nI my), .int (nI (Bool.toNat mw)), .ref b13, .ref b14, .ref b15])), fk_ai E b1 20 len, fk_ai E b2 300 ev, fk_ai E b3 2 mc, fk_ai E b4 28 mi, fk_ai E b5 28 mu, fk_ai E b6 2 mfi, fk_ai E b7 2 mla, fk_ai E b8 2 mac, fk_ai E b9 49 b1_, fk_ai E b10 15 (va_up x2 n2 l), fk_ai E b11 15 (va_up y2 n2 r)]) 0 10 fT_Md fT_Md_ok fT_Md_nm rfl rfl fh_Md (Nat.le_of_ble_eq_true rfl) fw_517 rfl (fT_Md_ok 10 (Nat.le_of_ble_eq_true rfl)) rfl rfl (Nat.le_of_ble_eq_true rfl) d_Md_mine_118 rfl ?_
                            refine fk_iinc (j := 2) (lv' := [(0, .ref b0), (1, .int (nI l)), (2, .int (nI (r + 1)))]) (r + 1) d_Md_mine_121 rfl (nI_1 r) (Nat.le_of_ble_eq_true rfl) [1, 2, 0] rfl ?_
                            refine fk_goto d_Md_mine_124 rfl ?_
                            refine ih57 _ _ _ _ ?_ ?_ ?_ ?_
                            · first | omega | assumption | exact Nat.zero_le _
                            · first | omega | assumption | exact Nat.zero_le _
                            · rw [← Nat.add_assoc]
                              first | exact fr_P_f h8 (by rw [g3, h79t, Bool.false_and]) | exact fr_P_f h8 (by rw [g3, h88t, Bool.and_false]) | (have w := fr_P_t h8 h70f (by rw [g3, h79f, h88f, Bool.and_self]) (by omega); rw [show (128 * l + r) / 128 = l by omega, show (128 * l + r) % 128 = r by omega] at w; exact w)
                            · omega
                refine L57 _ _ _ _ _ ?_ ?_ ?_ (Nat.lt_succ_self _)
                · first | omega | assumption | exact Nat.zero_le _
                · first | omega | assumption | exact Nat.zero_le _
                · exact fr_P_f h5 (fg_Q_0 (by omega))
        refine L39 _ _ _ _ _ ?_ ?_ ?_ (Nat.lt_succ_self _)
        · first | omega | assumption | exact Nat.zero_le _
        · first | omega | assumption | exact Nat.zero_le _
        · exact fr_P_0
      · refine fk_aload_n 0 d_Md_mine_13 rfl ?_
        refine fk_get 0 9 rfl rfl fh_Md (Nat.le_of_ble_eq_true rfl) fw_516 rfl d_Md_mine_14 ?_
        refine fk_iload_n 1 d_Md_mine_17 rfl ?_
        refine fk_aload_n 0 d_Md_mine_18 rfl ?_
        refine fk_iload_n 1 d_Md_mine_19 rfl ?_
        refine fk_bipush (v := nI 7) d_Md_mine_20 (by decide +kernel) ?_
        refine fk_idiv (a := k) (b := 7) d_Md_mine_22 (by omega) (by omega) (by omega) ?_
        refine fk_iload_n 1 d_Md_mine_23 rfl ?_
        refine fk_bipush (v := nI 7) d_Md_mine_24 (by decide +kernel) ?_
        refine fk_irem (a := k) (b := 7) d_Md_mine_26 (by omega) (by omega) (by omega) ?_
        refine fk_callV (q0 := 0) (As := [.int (nI (k / 7)), .int (nI (k % 7))]) (rest := [.int (nI k), .ref b9]) (is := [0, 1, 2]) (ir := [3, 4, 5, 6, 7, 8, 9, 10, 11]) (ip := [9, 10, 11, 0, 1, 2, 3, 4, 5, 6, 7, 8]) (wc := [(b0, .inr (6, [.int (nI mt), .ref b1, .ref b2, .ref b3, .ref b4, .ref b5, .ref b6, .ref b7, .ref b8, .ref b9, .int (nI 0), .ref b10, .ref b11, .ref b12, .int (nI my), .int (nI (Bool.toNat mw)), .ref b13, .ref b14, .ref b15])), fk_ai E b1 20 len, fk_ai E b2 300 ev]) (wr := [fk_ai E b3 2 mc, fk_ai E b4 28 mi, fk_ai E b5 28 mu, fk_ai E b6 2 mfi, fk_ai E b7 2 mla, fk_ai E b8 2 mac, fk_ai E b9 49 b1_, fk_ai E b10 15 mfx, fk_ai E b11 15 mfy]) (w2 := fun _ => [(b0, .inr (6, [.int (nI mt), .ref b1, .ref b2, .ref b3, .ref b4, .ref b5, .ref b6, .ref b7, .ref b8, .ref b9, .int (nI 0), .ref b10, .ref b11, .ref b12, .int (nI my), .int (nI (Bool.toNat mw)), .ref b13, .ref b14, .ref b15])), fk_ai E b1 20 len, fk_ai E b2 300 ev, fk_ai E b3 2 mc, fk_ai E b4 28 mi, fk_ai E b5 28 mu, fk_ai E b6 2 mfi, fk_ai E b7 2 mla, fk_ai E b8 2 mac, fk_ai E b9 49 b1_, fk_ai E b10 15 mfx, fk_ai E b11 15 mfy]) (cD_relation E b0 b1 b2 b3 b4 b5 b6 b7 b8 b9 b10 b11 b12 b13 b14 b15 mt 0 my mw len ev (k / 7) (k % 7) (by first | omega | assumption) hl he (by first | omega | assumption) (by first | omega | assumption)) d_Md_mine_27 fz_Md_relation fw_599 rfl rfl fw_588 fw_589 ⟨Nat.le_of_ble_eq_true rfl, Nat.le_of_ble_eq_true rfl⟩ rfl (Nat.le_of_ble_eq_true rfl) ⟨Nat.zero_le _, Nat.zero_le _⟩ ⟨rfl, rfl, rfl, rfl, by decide, fun _ => rfl, rfl⟩ (fun u hu27 => ?_)
        show fk_V E _ K (0, 0) [(b0, .inr (6, [.int (nI mt), .ref b1, .ref b2, .ref b3, .ref b4, .ref b5, .ref b6, .ref b7, .ref b8, .ref b9, .int (nI 0), .ref b10, .ref b11, .ref b12, .int (nI my), .int (nI (Bool.toNat mw)), .ref b13, .ref b14, .ref b15])), fk_ai E b1 20 len, fk_ai E b2 300 ev, fk_ai E b3 2 mc, fk_ai E b4 28 mi, fk_ai E b5 28 mu, fk_ai E b6 2 mfi, fk_ai E b7 2 mla, fk_ai E b8 2 mac, fk_ai E b9 49 b1_, fk_ai E b10 15 mfx, fk_ai E b11 15 mfy] 30 [(0, .ref b0), (1, .int (nI k))] [.int (nI (Bool.toNat (fg_fl mt len ev (k / 7) (k % 7)) + 2 * Bool.toNat (fg_fl mt len ev (k % 7) (k / 7)))), .int (nI k), .ref b9]
        refine fk_st_ai (i := k) (x := (Bool.toNat (fg_fl mt len ev (k / 7) (k % 7)) + 2 * Bool.toNat (fg_fl mt len ev (k % 7) (k / 7)))) (w' := [(b0, .inr (6, [.int (nI mt), .ref b1, .ref b2, .ref b3, .ref b4, .ref b5, .ref b6, .ref b7, .ref b8, .ref b9, .int (nI 0), .ref b10, .ref b11, .ref b12, .int (nI my), .int (nI (Bool.toNat mw)), .ref b13, .ref b14, .ref b15])), fk_ai E b1 20 len, fk_ai E b2 300 ev, fk_ai E b3 2 mc, fk_ai E b4 28 mi, fk_ai E b5 28 mu, fk_ai E b6 2 mfi, fk_ai E b7 2 mla, fk_ai E b8 2 mac, fk_ai E b9 49 (va_up b1_ k (Bool.toNat (fg_fl mt len ev (k / 7) (k % 7)) + 2 * Bool.toNat (fg_fl mt len ev (k % 7) (k / 7)))), fk_ai E b10 15 mfx, fk_ai E b11 15 mfy]) 9 rfl (by omega) (by decide) d_Md_mine_30 rfl ?_
        refine fk_iinc (j := 1) (lv' := [(0, .ref b0), (1, .int (nI (k + 1)))]) (k + 1) d_Md_mine_31 rfl (nI_1 k) (Nat.le_of_ble_eq_true rfl) [1, 0] rfl ?_
        refine fk_goto d_Md_mine_34 rfl ?_
        refine ih7 _ _ ?_ ?_ ?_
        · first | omega | assumption | exact Nat.zero_le _
        · intro a ha b hb hz
          rcases Nat.lt_or_ge (7 * a + b) k with w | w
          · rw [va_up_ne _ _ (by omega)]; exact h2 a ha b hb w
          · rw [show k = 7 * a + b by omega, va_up_self, show (7 * a + b) / 7 = a by omega, show (7 * a + b) % 7 = b by omega]
        · omega
  refine L7 _ _ _ ?_ ?_ (Nat.lt_succ_self _)
  · first | omega | assumption | exact Nat.zero_le _
  · exact fun a _ b _ hz => absurd hz (Nat.not_lt_zero _)
set_option maxRecDepth 20000 in
set_option maxHeartbeats 4000000 in
theorem cD_mine (E : fk_E) (b0 : Nat) (b1 : Nat) (b2 : Nat) (b3 : Nat) (b4 : Nat) (b5 : Nat) (b6 : Nat) (b7 : Nat) (b8 : Nat) (b9 : Nat) (b10 : Nat) (b11 : Nat) (b12 : Nat) (b13 : Nat) (b14 : Nat) (b15 : Nat) (mt : Nat) (mf : Nat) (my : Nat) (mw : Bool) (len : Nat → Nat) (ev : Nat → Nat) (mc : Nat → Nat) (mi : Nat → Nat) (mu : Nat → Nat) (mfi : Nat → Nat) (mla : Nat → Nat) (mac : Nat → Nat) (mtb : Nat → Nat) (mfx : Nat → Nat) (mfy : Nat → Nat) (hN : fr_N mc mi mu mfi mla) (ht : mt ≤ 20) (hl : ∀ t, t < mt → len t ≤ 15) (he : ∀ t, t < mt → ∀ i, i < len t → ev (15 * t + i) < 7) (hs : (fg_L (fg_fl mt len ev) 16384).length ≤ 14) : fk_C E fy_Md_mine prog_8_method_12_code 4 (some .int) 3 0 0 [.ref b0] [(b0, .inr (6, [.int (nI mt), .ref b1, .ref b2, .ref b3, .ref b4, .ref b5, .ref b6, .ref b7, .ref b8, .ref b9, .int (nI mf), .ref b10, .ref b11, .ref b12, .int (nI my), .int (nI (Bool.toNat mw)), .ref b13, .ref b14, .ref b15])), fk_ai E b1 20 len, fk_ai E b2 300 ev, fk_ai E b3 2 mc, fk_ai E b4 28 mi, fk_ai E b5 28 mu, fk_ai E b6 2 mfi, fk_ai E b7 2 mla, fk_ai E b8 2 mac, fk_ai E b9 49 mtb, fk_ai E b10 15 mfx, fk_ai E b11 15 mfy] (S := Nat × (Nat → Nat) × (Nat → Nat) × (Nat → Nat) × (Nat → Nat) × (Nat → Nat) × (Nat → Nat) × (Nat → Nat) × (Nat → Nat)) (fun (u : Nat × (Nat → Nat) × (Nat → Nat) × (Nat → Nat) × (Nat → Nat) × (Nat → Nat) × (Nat → Nat) × (Nat → Nat) × (Nat → Nat)) => some (.int (nI u.1))) (fun (u : Nat × (Nat → Nat) × (Nat → Nat) × (Nat → Nat) × (Nat → Nat) × (Nat → Nat) × (Nat → Nat) × (Nat → Nat) × (Nat → Nat)) => u.1 = (fg_L (fg_fl mt len ev) 16384).length ∧ (∀ z, z < 14 → u.2.2.2.2.1 z = mi z ∧ u.2.2.2.2.2.1 z = mu z) ∧ (∀ z, z < u.1 → u.2.2.2.2.1 (14 + z) = (fg_L (fg_fl mt len ev) 16384).getD z 0 / 128 ∧ u.2.2.2.2.2.1 (14 + z) = (fg_L (fg_fl mt len ev) 16384).getD z 0 % 128) ∧ (∀ z, z < 28 → u.2.2.2.2.1 z < 128 ∧ u.2.2.2.2.2.1 z < 128) ∧ (u.2.2.2.2.2.2.2.2 0 = mac 0 ∧ u.2.2.2.2.2.2.1 0 = mfi 0 ∧ u.2.2.2.2.2.2.2.1 0 = mla 0) ∧ u.2.2.2.2.2.2.1 1 = fs_set (fg_be mt len ev) 7 ∧ u.2.2.2.2.2.2.2.1 1 = fs_set (fg_nd mt len ev) 7 ∧ u.2.2.2.2.2.2.2.2 1 = fs_set (fg_oc mt len ev) 7) (fun (u : Nat × (Nat → Nat) × (Nat → Nat) × (Nat → Nat) × (Nat → Nat) × (Nat → Nat) × (Nat → Nat) × (Nat → Nat) × (Nat → Nat)) => [(b0, .inr (6, [.int (nI mt), .ref b1, .ref b2, .ref b3, .ref b4, .ref b5, .ref b6, .ref b7, .ref b8, .ref b9, .int (nI u.1), .ref b10, .ref b11, .ref b12, .int (nI my), .int (nI (Bool.toNat mw)), .ref b13, .ref b14, .ref b15])), fk_ai E b1 20 len, fk_ai E b2 300 ev, fk_ai E b3 2 (va_up mc 1 u.1), fk_ai E b4 28 u.2.2.2.2.1, fk_ai E b5 28 u.2.2.2.2.2.1, fk_ai E b6 2 u.2.2.2.2.2.2.1, fk_ai E b7 2 u.2.2.2.2.2.2.2.1, fk_ai E b8 2 u.2.2.2.2.2.2.2.2, fk_ai E b9 49 u.2.1, fk_ai E b10 15 u.2.2.1, fk_ai E b11 15 u.2.2.2.1]) := by
  refine fk_enterI (v := fun (u : Nat × (Nat → Nat) × (Nat → Nat) × (Nat → Nat) × (Nat → Nat) × (Nat → Nat) × (Nat → Nat) × (Nat → Nat) × (Nat → Nat)) => (nI u.1)) (by decide) (Nat.le_of_ble_eq_true rfl) (lv0 := [(0, .ref b0)]) rfl ?_
  intro K hini hret
  refine fk_aload_n 0 d_Md_mine_0 rfl ?_
  refine fk_iconst (v := nI 0) d_Md_mine_1 (by decide +kernel) ?_
  refine fk_put (w' := [(b0, .inr (6, [.int (nI mt), .ref b1, .ref b2, .ref b3, .ref b4, .ref b5, .ref b6, .ref b7, .ref b8, .ref b9, .int (nI 0), .ref b10, .ref b11, .ref b12, .int (nI my), .int (nI (Bool.toNat mw)), .ref b13, .ref b14, .ref b15])), fk_ai E b1 20 len, fk_ai E b2 300 ev, fk_ai E b3 2 mc, fk_ai E b4 28 mi, fk_ai E b5 28 mu, fk_ai E b6 2 mfi, fk_ai E b7 2 mla, fk_ai E b8 2 mac, fk_ai E b9 49 mtb, fk_ai E b10 15 mfx, fk_ai E b11 15 mfy]) 0 10 fT_Md fT_Md_ok fT_Md_nm rfl rfl fh_Md (Nat.le_of_ble_eq_true rfl) fw_517 rfl (fT_Md_ok 10 (Nat.le_of_ble_eq_true rfl)) rfl rfl (Nat.le_of_ble_eq_true rfl) d_Md_mine_2 rfl ?_
  refine fk_iconst (v := nI 0) d_Md_mine_5 (by decide +kernel) ?_
  refine fk_istore_n (lv' := [(0, .ref b0), (1, .int (nI 0))]) d_Md_mine_6 rfl (Nat.le_of_ble_eq_true rfl) [1, 0] rfl ?_
  have L7 : ∀ (fuel : Nat) (k : Nat) (b1_ : Nat → Nat), (k ≤ 49) → (∀ a, a < 7 → ∀ b, b < 7 → 7 * a + b < k → b1_ (7 * a + b) = Bool.toNat ((fg_fl mt len ev) a b) + 2 * Bool.toNat ((fg_fl mt len ev) b a)) → 49 - k < fuel → fk_V E (prog_8_method_12_code, fy_Md_mine.cls, 4, fk_rm 3 0 0) K (0, 0) [(b0, .inr (6, [.int (nI mt), .ref b1, .ref b2, .ref b3, .ref b4, .ref b5, .ref b6, .ref b7, .ref b8, .ref b9, .int (nI 0), .ref b10, .ref b11, .ref b12, .int (nI my), .int (nI (Bool.toNat mw)), .ref b13, .ref b14, .ref b15])), fk_ai E b1 20 len, fk_ai E b2 300 ev, fk_ai E b3 2 mc, fk_ai E b4 28 mi, fk_ai E b5 28 mu, fk_ai E b6 2 mfi, fk_ai E b7 2 mla, fk_ai E b8 2 mac, fk_ai E b9 49 b1_, fk_ai E b10 15 mfx, fk_ai E b11 15 mfy] 7 [(0, .ref b0), (1, .int (nI k))] [] := by
    intro fuel
    induction fuel with
    | zero => intro k b1_ _ _ hm; exact absurd hm (Nat.not_lt_zero _)
    | succ fuel ih =>
      intro k b1_ h1 h2 hm7
      have ih7 := ih
      clear ih
      refine fk_iload_n 1 d_Md_mine_7 rfl ?_
      refine fk_bipush (v := nI 49) d_Md_mine_8 (by decide +kernel) ?_
      refine fk_icmp_ge (a := k) (b := 49) (by omega) (by omega) d_Md_mine_10 rfl (fun h10t => ?_) (fun h10f => ?_)
      · have g0 : ∀ a, a < 7 → ∀ b, b < 7 → b1_ (7 * a + b) = Bool.toNat ((fg_fl mt len ev) a b) + 2 * Bool.toNat ((fg_fl mt len ev) b a) := fun a ha b hb => h2 a ha b hb (by omega)
        refine fk_iconst (v := nI 1) d_Md_mine_37 (by decide +kernel) ?_
        refine fk_istore_n (lv' := [(0, .ref b0), (1, .int (nI 1))]) d_Md_mine_38 rfl (Nat.le_of_ble_eq_true rfl) [1, 0] rfl ?_
        have L39 : ∀ (fuel : Nat) (l : Nat) (n1 : Nat) (x1 : Nat → Nat) (y1 : Nat → Nat), (0 < l) → (l ≤ 128) → (fr_P (fg_fl mt len ev) (128 * l) n1 x1 y1) → 128 - l < fuel → fk_V E (prog_8_method_12_code, fy_Md_mine.cls, 4, fk_rm 3 0 0) K (0, 0) [(b0, .inr (6, [.int (nI mt), .ref b1, .ref b2, .ref b3, .ref b4, .ref b5, .ref b6, .ref b7, .ref b8, .ref b9, .int (nI n1), .ref b10, .ref b11, .ref b12, .int (nI my), .int (nI (Bool.toNat mw)), .ref b13, .ref b14, .ref b15])), fk_ai E b1 20 len, fk_ai E b2 300 ev, fk_ai E b3 2 mc, fk_ai E b4 28 mi, fk_ai E b5 28 mu, fk_ai E b6 2 mfi, fk_ai E b7 2 mla, fk_ai E b8 2 mac, fk_ai E b9 49 b1_, fk_ai E b10 15 x1, fk_ai E b11 15 y1] 39 [(0, .ref b0), (1, .int (nI l))] [] := by
          intro fuel
          induction fuel with
          | zero => intro l n1 x1 y1 _ _ _ hm; exact absurd hm (Nat.not_lt_zero _)
          | succ fuel ih =>
            intro l n1 x1 y1 h3 h4 h5 hm39
            have ih39 := ih
            clear ih
            have g1 := h5.1
            refine fk_iload_n 1 d_Md_mine_39 rfl ?_
            refine fk_sipush (v := nI 128) d_Md_mine_40 (by decide +kernel) ?_
            refine fk_icmp_ge (a := l) (b := 128) (by omega) (by omega) d_Md_mine_43 rfl (fun h43t => ?_) (fun h43f => ?_)
            · refine fk_aload_n 0 d_Md_mine_133 rfl ?_
              refine fk_get 0 10 rfl rfl fh_Md (Nat.le_of_ble_eq_true rfl) fw_517 rfl d_Md_mine_134 ?_
              refine fk_bipush (v := nI 14) d_Md_mine_137 (by decide +kernel) ?_
              refine fk_icmp_le (a := n1) (b := 14) (by omega) (by omega) d_Md_mine_139 rfl (fun h139t => ?_) (fun h139f => ?_)
              · have g5 : l = 128 := by omega
                have g6 : fr_P (fg_fl mt len ev) 16384 n1 x1 y1 := by rw [g5] at h5; exact h5
                have g7 := (g6.2.1 (by omega)).1
                refine fk_iconst (v := nI 0) d_Md_mine_145 (by decide +kernel) ?_
                refine fk_istore_n (lv' := [(0, .ref b0), (1, .int (nI 0))]) d_Md_mine_146 rfl (Nat.le_of_ble_eq_true rfl) [1, 0] rfl ?_
                have L147 : ∀ (fuel : Nat) (k : Nat) (i1 : Nat → Nat) (u1 : Nat → Nat), (k ≤ n1) → (∀ z, z < 14 → i1 z = mi z ∧ u1 z = mu z) → (∀ z, z < k → i1 (14 + z) = x1 z ∧ u1 (14 + z) = y1 z) → (∀ z, z < 28 → i1 z < 128 ∧ u1 z < 128) → n1 - k < fuel → fk_V E (prog_8_method_12_code, fy_Md_mine.cls, 4, fk_rm 3 0 0) K (0, 0) [(b0, .inr (6, [.int (nI mt), .ref b1, .ref b2, .ref b3, .ref b4, .ref b5, .ref b6, .ref b7, .ref b8, .ref b9, .int (nI n1), .ref b10, .ref b11, .ref b12, .int (nI my), .int (nI (Bool.toNat mw)), .ref b13, .ref b14, .ref b15])), fk_ai E b1 20 len, fk_ai E b2 300 ev, fk_ai E b3 2 mc, fk_ai E b4 28 i1, fk_ai E b5 28 u1, fk_ai E b6 2 mfi, fk_ai E b7 2 mla, fk_ai E b8 2 mac, fk_ai E b9 49 b1_, fk_ai E b10 15 x1, fk_ai E b11 15 y1] 147 [(0, .ref b0), (1, .int (nI k))] [] := by
                  intro fuel
                  induction fuel with
                  | zero => intro k i1 u1 _ _ _ _ hm; exact absurd hm (Nat.not_lt_zero _)
                  | succ fuel ih =>
                    intro k i1 u1 h9 h10 h11 h12 hm147
                    have ih147 := ih
                    clear ih
                    refine fk_iload_n 1 d_Md_mine_147 rfl ?_
                    refine fk_aload_n 0 d_Md_mine_148 rfl ?_
                    refine fk_get 0 10 rfl rfl fh_Md (Nat.le_of_ble_eq_true rfl) fw_517 rfl d_Md_mine_149 ?_
                    refine fk_icmp_ge (a := k) (b := n1) (by omega) (by omega) d_Md_mine_152 rfl (fun h152t => ?_) (fun h152f => ?_)
                    · refine fk_aload_n 0 d_Md_mine_191 rfl ?_
                      refine fk_get 0 3 rfl rfl fh_Md (Nat.le_of_ble_eq_true rfl) fw_510 rfl d_Md_mine_192 ?_
                      refine fk_iconst (v := nI 1) d_Md_mine_195 (by decide +kernel) ?_
                      refine fk_aload_n 0 d_Md_mine_196 rfl ?_
                      refine fk_get 0 10 rfl rfl fh_Md (Nat.le_of_ble_eq_true rfl) fw_517 rfl d_Md_mine_197 ?_
                      refine fk_st_ai (i := 1) (x := n1) (w' := [(b0, .inr (6, [.int (nI mt), .ref b1, .ref b2, .ref b3, .ref b4, .ref b5, .ref b6, .ref b7, .ref b8, .ref b9, .int (nI n1), .ref b10, .ref b11, .ref b12, .int (nI my), .int (nI (Bool.toNat mw)), .ref b13, .ref b14, .ref b15])), fk_ai E b1 20 len, fk_ai E b2 300 ev, fk_ai E b3 2 (va_up mc 1 n1), fk_ai E b4 28 i1, fk_ai E b5 28 u1, fk_ai E b6 2 mfi, fk_ai E b7 2 mla, fk_ai E b8 2 mac, fk_ai E b9 49 b1_, fk_ai E b10 15 x1, fk_ai E b11 15 y1]) 3 rfl (by omega) (by decide) d_Md_mine_200 rfl ?_
                      refine fk_aload_n 0 d_Md_mine_201 rfl ?_
                      refine fk_get 0 6 rfl rfl fh_Md (Nat.le_of_ble_eq_true rfl) fw_513 rfl d_Md_mine_202 ?_
                      refine fk_iconst (v := nI 1) d_Md_mine_205 (by decide +kernel) ?_
                      refine fk_iconst (v := nI 0) d_Md_mine_206 (by decide +kernel) ?_
                      refine fk_st_ai (i := 1) (x := 0) (w' := [(b0, .inr (6, [.int (nI mt), .ref b1, .ref b2, .ref b3, .ref b4, .ref b5, .ref b6, .ref b7, .ref b8, .ref b9, .int (nI n1), .ref b10, .ref b11, .ref b12, .int (nI my), .int (nI (Bool.toNat mw)), .ref b13, .ref b14, .ref b15])), fk_ai E b1 20 len, fk_ai E b2 300 ev, fk_ai E b3 2 (va_up mc 1 n1), fk_ai E b4 28 i1, fk_ai E b5 28 u1, fk_ai E b6 2 (va_up mfi 1 0), fk_ai E b7 2 mla, fk_ai E b8 2 mac, fk_ai E b9 49 b1_, fk_ai E b10 15 x1, fk_ai E b11 15 y1]) 6 rfl (by omega) (by decide) d_Md_mine_207 rfl ?_
                      refine fk_aload_n 0 d_Md_mine_208 rfl ?_
                      refine fk_get 0 7 rfl rfl fh_Md (Nat.le_of_ble_eq_true rfl) fw_514 rfl d_Md_mine_209 ?_
                      refine fk_iconst (v := nI 1) d_Md_mine_212 (by decide +kernel) ?_
                      refine fk_iconst (v := nI 0) d_Md_mine_213 (by decide +kernel) ?_
                      refine fk_st_ai (i := 1) (x := 0) (w' := [(b0, .inr (6, [.int (nI mt), .ref b1, .ref b2, .ref b3, .ref b4, .ref b5, .ref b6, .ref b7, .ref b8, .ref b9, .int (nI n1), .ref b10, .ref b11, .ref b12, .int (nI my), .int (nI (Bool.toNat mw)), .ref b13, .ref b14, .ref b15])), fk_ai E b1 20 len, fk_ai E b2 300 ev, fk_ai E b3 2 (va_up mc 1 n1), fk_ai E b4 28 i1, fk_ai E b5 28 u1, fk_ai E b6 2 (va_up mfi 1 0), fk_ai E b7 2 (va_up mla 1 0), fk_ai E b8 2 mac, fk_ai E b9 49 b1_, fk_ai E b10 15 x1, fk_ai E b11 15 y1]) 7 rfl (by omega) (by decide) d_Md_mine_214 rfl ?_
                      refine fk_aload_n 0 d_Md_mine_215 rfl ?_
                      refine fk_get 0 8 rfl rfl fh_Md (Nat.le_of_ble_eq_true rfl) fw_515 rfl d_Md_mine_216 ?_
                      refine fk_iconst (v := nI 1) d_Md_mine_219 (by decide +kernel) ?_
                      refine fk_iconst (v := nI 0) d_Md_mine_220 (by decide +kernel) ?_
                      refine fk_st_ai (i := 1) (x := 0) (w' := [(b0, .inr (6, [.int (nI mt), .ref b1, .ref b2, .ref b3, .ref b4, .ref b5, .ref b6, .ref b7, .ref b8, .ref b9, .int (nI n1), .ref b10, .ref b11, .ref b12, .int (nI my), .int (nI (Bool.toNat mw)), .ref b13, .ref b14, .ref b15])), fk_ai E b1 20 len, fk_ai E b2 300 ev, fk_ai E b3 2 (va_up mc 1 n1), fk_ai E b4 28 i1, fk_ai E b5 28 u1, fk_ai E b6 2 (va_up mfi 1 0), fk_ai E b7 2 (va_up mla 1 0), fk_ai E b8 2 (va_up mac 1 0), fk_ai E b9 49 b1_, fk_ai E b10 15 x1, fk_ai E b11 15 y1]) 8 rfl (by omega) (by decide) d_Md_mine_221 rfl ?_
                      refine fk_iconst (v := nI 0) d_Md_mine_222 (by decide +kernel) ?_
                      refine fk_istore_n (lv' := [(0, .ref b0), (1, .int (nI 0))]) d_Md_mine_223 rfl (Nat.le_of_ble_eq_true rfl) [1, 0] rfl ?_
                      have L224 : ∀ (fuel : Nat) (t : Nat) (c1 : Nat → Nat) (f1 : Nat → Nat) (l1 : Nat → Nat), (t ≤ mt) → (c1 0 = mac 0 ∧ f1 0 = mfi 0 ∧ l1 0 = mla 0) → (c1 1 < 128 ∧ f1 1 < 128 ∧ l1 1 < 128) → (∀ a, (c1 1).testBit a = fg_oc t len ev a ∧ (f1 1).testBit a = fg_be t len ev a ∧ (l1 1).testBit a = fg_nd t len ev a) → mt - t < fuel → fk_V E (prog_8_method_12_code, fy_Md_mine.cls, 4, fk_rm 3 0 0) K (0, 0) [(b0, .inr (6, [.int (nI mt), .ref b1, .ref b2, .ref b3, .ref b4, .ref b5, .ref b6, .ref b7, .ref b8, .ref b9, .int (nI n1), .ref b10, .ref b11, .ref b12, .int (nI my), .int (nI (Bool.toNat mw)), .ref b13, .ref b14, .ref b15])), fk_ai E b1 20 len, fk_ai E b2 300 ev, fk_ai E b3 2 (va_up mc 1 n1), fk_ai E b4 28 i1, fk_ai E b5 28 u1, fk_ai E b6 2 f1, fk_ai E b7 2 l1, fk_ai E b8 2 c1, fk_ai E b9 49 b1_, fk_ai E b10 15 x1, fk_ai E b11 15 y1] 224 [(0, .ref b0), (1, .int (nI t))] [] := by
                        intro fuel
                        induction fuel with
                        | zero => intro t c1 f1 l1 _ _ _ _ hm; exact absurd hm (Nat.not_lt_zero _)
                        | succ fuel ih =>
                          intro t c1 f1 l1 h13 h14 h15 h16 hm224
                          have ih224 := ih
                          clear ih
                          refine fk_iload_n 1 d_Md_mine_224 rfl ?_
                          refine fk_aload_n 0 d_Md_mine_225 rfl ?_
                          refine fk_get 0 0 rfl rfl fh_Md (Nat.le_of_ble_eq_true rfl) fw_507 rfl d_Md_mine_226 ?_
                          refine fk_icmp_ge (a := t) (b := mt) (by omega) (by omega) d_Md_mine_229 rfl (fun h229t => ?_) (fun h229f => ?_)
                          · refine fk_aload_n 0 d_Md_mine_324 rfl ?_
                            refine fk_get 0 10 rfl rfl fh_Md (Nat.le_of_ble_eq_true rfl) fw_517 rfl d_Md_mine_325 ?_
                            have hpp : n1 = (fg_L (fg_fl mt len ev) 16384).length ∧ (∀ z, z < 14 → i1 z = mi z ∧ u1 z = mu z) ∧ (∀ z, z < n1 → i1 (14 + z) = (fg_L (fg_fl mt len ev) 16384).getD z 0 / 128 ∧ u1 (14 + z) = (fg_L (fg_fl mt len ev) 16384).getD z 0 % 128) ∧ (∀ z, z < 28 → i1 z < 128 ∧ u1 z < 128) ∧ (c1 0 = mac 0 ∧ f1 0 = mfi 0 ∧ l1 0 = mla 0) ∧ f1 1 = fs_set (fg_be mt len ev) 7 ∧ l1 1 = fs_set (fg_nd mt len ev) 7 ∧ c1 1 = fs_set (fg_oc mt len ev) 7 := by
                              have e9 : t = mt := by omega
                              rw [e9] at h16
                              exact ⟨g7, h10, fun z hz => by rw [(h11 z (by omega)).1, (h11 z (by omega)).2]; exact (g6.2.1 (by omega)).2 z hz, h12, h14, fs_set_of h15.2.1 (fun a => (h16 a).2.1), fs_set_of h15.2.2 (fun a => (h16 a).2.2), fs_set_of h15.1 (fun a => (h16 a).1)⟩
                            exact hret (0, 0) _ 328 _ (n1, b1_, x1, y1, i1, u1, f1, l1, c1) d_Md_mine_328 (hpp) (rfl)
                          · refine fk_iconst (v := nI 0) d_Md_mine_232 (by decide +kernel) ?_
                            refine fk_istore_n (lv' := [(0, .ref b0), (1, .int (nI t)), (2, .int (nI 0))]) d_Md_mine_233 rfl (Nat.le_of_ble_eq_true rfl) [1, 2, 0] rfl ?_
                            have L234 : ∀ (fuel : Nat) (i : Nat) (c2 : Nat → Nat) (f2 : Nat → Nat) (l2 : Nat → Nat), (i ≤ len t) → (c2 0 = mac 0 ∧ f2 0 = mfi 0 ∧ l2 0 = mla 0) → (c2 1 < 128 ∧ f2 1 < 128 ∧ l2 1 < 128) → (∀ a, (c2 1).testBit a = (fg_oc t len ev a || fs_any (fun z => decide (ev (15 * t + z) = a)) i) ∧ (f2 1).testBit a = (fg_be t len ev a || (decide (0 < i) && decide (ev (15 * t + 0) = a))) ∧ (l2 1).testBit a = (fg_nd t len ev a || (decide (i = len t) && (decide (0 < len t) && decide (ev (15 * t + (len t - 1)) = a))))) → len t - i < fuel → fk_V E (prog_8_method_12_code, fy_Md_mine.cls, 4, fk_rm 3 0 0) K (0, 0) [(b0, .inr (6, [.int (nI mt), .ref b1, .ref b2, .ref b3, .ref b4, .ref b5, .ref b6, .ref b7, .ref b8, .ref b9, .int (nI n1), .ref b10, .ref b11, .ref b12, .int (nI my), .int (nI (Bool.toNat mw)), .ref b13, .ref b14, .ref b15])), fk_ai E b1 20 len, fk_ai E b2 300 ev, fk_ai E b3 2 (va_up mc 1 n1), fk_ai E b4 28 i1, fk_ai E b5 28 u1, fk_ai E b6 2 f2, fk_ai E b7 2 l2, fk_ai E b8 2 c2, fk_ai E b9 49 b1_, fk_ai E b10 15 x1, fk_ai E b11 15 y1] 234 [(0, .ref b0), (1, .int (nI t)), (2, .int (nI i))] [] := by
                              intro fuel
                              induction fuel with
                              | zero => intro i c2 f2 l2 _ _ _ _ hm; exact absurd hm (Nat.not_lt_zero _)
                              | succ fuel ih =>
                                intro i c2 f2 l2 h17 h18 h19 h20 hm234
                                have ih234 := ih
                                clear ih
                                have g8 := hl t (by omega)
                                refine fk_iload_n 2 d_Md_mine_234 rfl ?_
                                refine fk_aload_n 0 d_Md_mine_235 rfl ?_
                                refine fk_get 0 1 rfl rfl fh_Md (Nat.le_of_ble_eq_true rfl) fw_508 rfl d_Md_mine_236 ?_
                                refine fk_iload_n 1 d_Md_mine_239 rfl ?_
                                refine fk_ld_ai (i := t) 1 rfl (by omega) (by decide) d_Md_mine_240 ?_
                                refine fk_icmp_ge (a := i) (b := (len t)) (by omega) (by omega) d_Md_mine_241 rfl (fun h241t => ?_) (fun h241f => ?_)
                                · refine fk_iinc (j := 1) (lv' := [(0, .ref b0), (1, .int (nI (t + 1))), (2, .int (nI i))]) (t + 1) d_Md_mine_318 rfl (nI_1 t) (Nat.le_of_ble_eq_true rfl) [1, 0, 2] rfl ?_
                                  refine fk_goto d_Md_mine_321 rfl ?_
                                  refine fk_lv (lv' := [(0, .ref b0), (1, .int (nI (t + 1)))]) [0, 1] rfl ?_
                                  refine ih224 _ _ _ _ ?_ ?_ ?_ ?_ ?_
                                  · first | omega | assumption | exact Nat.zero_le _
                                  · exact h18
                                  · exact h19
                                  · intro a
                                    have w := h20 a
                                    rw [fg_oc_s, fg_be_s, fg_nd_s, w.1, w.2.1, w.2.2, show i = len t by omega]
                                    refine ⟨rfl, rfl, ?_⟩
                                    congr 1
                                    rw [decide_eq_true (show len t = len t from rfl), Bool.true_and]
                                  · omega
                                · have g9 := he t (by omega) i h241f
                                  have g10 := fb_pow_lt g9
                                  refine fk_iconst (v := nI 1) d_Md_mine_244 (by decide +kernel) ?_
                                  refine fk_aload_n 0 d_Md_mine_245 rfl ?_
                                  refine fk_get 0 2 rfl rfl fh_Md (Nat.le_of_ble_eq_true rfl) fw_509 rfl d_Md_mine_246 ?_
                                  refine fk_bipush (v := nI 15) d_Md_mine_249 (by decide +kernel) ?_
                                  refine fk_iload_n 1 d_Md_mine_251 rfl ?_
                                  refine fk_imul (a := 15) (b := t) d_Md_mine_252 ?_
                                  refine fk_iload_n 2 d_Md_mine_253 rfl ?_
                                  refine fk_iadd (a := (15 * t)) (b := i) d_Md_mine_254 ?_
                                  refine fk_ld_ai (i := ((15 * t) + i)) 2 rfl (by omega) (by decide) d_Md_mine_255 ?_
                                  refine fk_ishl (a := 1) (b := (ev ((15 * t) + i))) d_Md_mine_256 (by omega) (by omega) ?_
                                  refine fk_top (show nI (1 * 2 ^ (ev ((15 * t) + i))) = nI (2 ^ (ev ((15 * t) + i))) by rw [Nat.one_mul]) ?_
                                  refine fk_istore_n (lv' := [(0, .ref b0), (1, .int (nI t)), (2, .int (nI i)), (3, .int (nI (2 ^ (ev ((15 * t) + i)))))]) d_Md_mine_257 rfl (Nat.le_of_ble_eq_true rfl) [1, 2, 3, 0] rfl ?_
                                  refine fk_aload_n 0 d_Md_mine_258 rfl ?_
                                  refine fk_get 0 8 rfl rfl fh_Md (Nat.le_of_ble_eq_true rfl) fw_515 rfl d_Md_mine_259 ?_
                                  refine fk_iconst (v := nI 1) d_Md_mine_262 (by decide +kernel) ?_
                                  refine fk_dup2 d_Md_mine_263 rfl rfl ?_
                                  refine fk_ld_ai (i := 1) 8 rfl (by omega) (by decide) d_Md_mine_264 ?_
                                  refine fk_iload_n 3 d_Md_mine_265 rfl ?_
                                  refine fk_ior (a := (c2 1)) (b := (2 ^ (ev ((15 * t) + i)))) d_Md_mine_266 ?_
                                  refine fk_st_ai (i := 1) (x := ((c2 1) ||| (2 ^ (ev ((15 * t) + i))))) (w' := [(b0, .inr (6, [.int (nI mt), .ref b1, .ref b2, .ref b3, .ref b4, .ref b5, .ref b6, .ref b7, .ref b8, .ref b9, .int (nI n1), .ref b10, .ref b11, .ref b12, .int (nI my), .int (nI (Bool.toNat mw)), .ref b13, .ref b14, .ref b15])), fk_ai E b1 20 len, fk_ai E b2 300 ev, fk_ai E b3 2 (va_up mc 1 n1), fk_ai E b4 28 i1, fk_ai E b5 28 u1, fk_ai E b6 2 f2, fk_ai E b7 2 l2, fk_ai E b8 2 (va_up c2 1 ((c2 1) ||| (2 ^ (ev ((15 * t) + i))))), fk_ai E b9 49 b1_, fk_ai E b10 15 x1, fk_ai E b11 15 y1]) 8 rfl (by omega) (by decide) d_Md_mine_267 rfl ?_
                                  refine fk_aload_n 0 d_Md_mine_268 rfl ?_
                                  refine fk_get 0 6 rfl rfl fh_Md (Nat.le_of_ble_eq_true rfl) fw_513 rfl d_Md_mine_269 ?_
                                  refine fk_iconst (v := nI 1) d_Md_mine_272 (by decide +kernel) ?_
                                  refine fk_dup2 d_Md_mine_273 rfl rfl ?_
                                  refine fk_ld_ai (i := 1) 6 rfl (by omega) (by decide) d_Md_mine_274 ?_
                                  have L284 : ∀ (v : Nat), (v = if i = 0 then 2 ^ ev (15 * t + i) else 0) → (v < 128) → fk_V E (prog_8_method_12_code, fy_Md_mine.cls, 4, fk_rm 3 0 0) K (0, 0) [(b0, .inr (6, [.int (nI mt), .ref b1, .ref b2, .ref b3, .ref b4, .ref b5, .ref b6, .ref b7, .ref b8, .ref b9, .int (nI n1), .ref b10, .ref b11, .ref b12, .int (nI my), .int (nI (Bool.toNat mw)), .ref b13, .ref b14, .ref b15])), fk_ai E b1 20 len, fk_ai E b2 300 ev, fk_ai E b3 2 (va_up mc 1 n1), fk_ai E b4 28 i1, fk_ai E b5 28 u1, fk_ai E b6 2 f2, fk_ai E b7 2 l2, fk_ai E b8 2 (va_up c2 1 ((c2 1) ||| (2 ^ (ev ((15 * t) + i))))), fk_ai E b9 49 b1_, fk_ai E b10 15 x1, fk_ai E b11 15 y1] 284 [(0, .ref b0), (1, .int (nI t)), (2, .int (nI i)), (3, .int (nI (2 ^ (ev ((15 * t) + i)))))] [.int (nI v), .int (nI (f2 1)), .int (nI 1), .ref b6] := by
                                    intro v j1 j1b
                                    refine fk_ior (a := (f2 1)) (b := v) d_Md_mine_284 ?_
                                    refine fk_st_ai (i := 1) (x := ((f2 1) ||| v)) (w' := [(b0, .inr (6, [.int (nI mt), .ref b1, .ref b2, .ref b3, .ref b4, .ref b5, .ref b6, .ref b7, .ref b8, .ref b9, .int (nI n1), .ref b10, .ref b11, .ref b12, .int (nI my), .int (nI (Bool.toNat mw)), .ref b13, .ref b14, .ref b15])), fk_ai E b1 20 len, fk_ai E b2 300 ev, fk_ai E b3 2 (va_up mc 1 n1), fk_ai E b4 28 i1, fk_ai E b5 28 u1, fk_ai E b6 2 (va_up f2 1 ((f2 1) ||| v)), fk_ai E b7 2 l2, fk_ai E b8 2 (va_up c2 1 ((c2 1) ||| (2 ^ (ev ((15 * t) + i))))), fk_ai E b9 49 b1_, fk_ai E b10 15 x1, fk_ai E b11 15 y1]) 6 rfl (by omega) (by decide) d_Md_mine_285 rfl ?_
                                    refine fk_aload_n 0 d_Md_mine_286 rfl ?_
                                    refine fk_get 0 7 rfl rfl fh_Md (Nat.le_of_ble_eq_true rfl) fw_514 rfl d_Md_mine_287 ?_
                                    refine fk_iconst (v := nI 1) d_Md_mine_290 (by decide +kernel) ?_
                                    refine fk_dup2 d_Md_mine_291 rfl rfl ?_
                                    refine fk_ld_ai (i := 1) 7 rfl (by omega) (by decide) d_Md_mine_292 ?_
                                    have L310 : ∀ (v2 : Nat), (v2 = if i = len t - 1 then 2 ^ ev (15 * t + i) else 0) → (v2 < 128) → fk_V E (prog_8_method_12_code, fy_Md_mine.cls, 4, fk_rm 3 0 0) K (0, 0) [(b0, .inr (6, [.int (nI mt), .ref b1, .ref b2, .ref b3, .ref b4, .ref b5, .ref b6, .ref b7, .ref b8, .ref b9, .int (nI n1), .ref b10, .ref b11, .ref b12, .int (nI my), .int (nI (Bool.toNat mw)), .ref b13, .ref b14, .ref b15])), fk_ai E b1 20 len, fk_ai E b2 300 ev, fk_ai E b3 2 (va_up mc 1 n1), fk_ai E b4 28 i1, fk_ai E b5 28 u1, fk_ai E b6 2 (va_up f2 1 ((f2 1) ||| v)), fk_ai E b7 2 l2, fk_ai E b8 2 (va_up c2 1 ((c2 1) ||| (2 ^ (ev ((15 * t) + i))))), fk_ai E b9 49 b1_, fk_ai E b10 15 x1, fk_ai E b11 15 y1] 310 [(0, .ref b0), (1, .int (nI t)), (2, .int (nI i)), (3, .int (nI (2 ^ (ev ((15 * t) + i)))))] [.int (nI v2), .int (nI (l2 1)), .int (nI 1), .ref b7] := by
                                      intro v2 j2 j2b
                                      refine fk_ior (a := (l2 1)) (b := v2) d_Md_mine_310 ?_
                                      refine fk_st_ai (i := 1) (x := ((l2 1) ||| v2)) (w' := [(b0, .inr (6, [.int (nI mt), .ref b1, .ref b2, .ref b3, .ref b4, .ref b5, .ref b6, .ref b7, .ref b8, .ref b9, .int (nI n1), .ref b10, .ref b11, .ref b12, .int (nI my), .int (nI (Bool.toNat mw)), .ref b13, .ref b14, .ref b15])), fk_ai E b1 20 len, fk_ai E b2 300 ev, fk_ai E b3 2 (va_up mc 1 n1), fk_ai E b4 28 i1, fk_ai E b5 28 u1, fk_ai E b6 2 (va_up f2 1 ((f2 1) ||| v)), fk_ai E b7 2 (va_up l2 1 ((l2 1) ||| v2)), fk_ai E b8 2 (va_up c2 1 ((c2 1) ||| (2 ^ (ev ((15 * t) + i))))), fk_ai E b9 49 b1_, fk_ai E b10 15 x1, fk_ai E b11 15 y1]) 7 rfl (by omega) (by decide) d_Md_mine_311 rfl ?_
                                      refine fk_iinc (j := 2) (lv' := [(0, .ref b0), (1, .int (nI t)), (2, .int (nI (i + 1))), (3, .int (nI (2 ^ (ev ((15 * t) + i)))))]) (i + 1) d_Md_mine_312 rfl (nI_1 i) (Nat.le_of_ble_eq_true rfl) [1, 2, 0, 3] rfl ?_
                                      refine fk_goto d_Md_mine_315 rfl ?_
                                      refine fk_lv (lv' := [(0, .ref b0), (1, .int (nI t)), (2, .int (nI (i + 1)))]) [0, 1, 2] rfl ?_
                                      refine ih234 _ _ _ _ ?_ ?_ ?_ ?_ ?_
                                      · first | omega | assumption | exact Nat.zero_le _
                                      · rw [va_up_ne _ _ (by decide), va_up_ne _ _ (by decide), va_up_ne _ _ (by decide)]
                                        exact h18
                                      · rw [va_up_self, va_up_self, va_up_self]
                                        exact ⟨fb_or_lt h19.1 g10, fb_or_lt h19.2.1 j1b, fb_or_lt h19.2.2 j2b⟩
                                      · intro a
                                        have w := h20 a
                                        rw [va_up_self, va_up_self, va_up_self, fb_or_bit, Nat.testBit_or, Nat.testBit_or, w.1, w.2.1, w.2.2, fs_any_s, Bool.or_assoc]
                                        refine ⟨rfl, ?_, ?_⟩
                                        · rw [j1, Bool.or_assoc]
                                          congr 1
                                          by_cases e : i = 0
                                          · subst e; simp [Nat.testBit_two_pow]
                                          · rw [if_neg e, Nat.zero_testBit, Bool.or_false, decide_eq_true (show 0 < i by omega), decide_eq_true (show 0 < i + 1 by omega)]
                                        · rw [j2, decide_eq_false (show ¬ i = len t by omega), Bool.false_and, Bool.or_false]
                                          congr 1
                                          by_cases e : i = len t - 1
                                          · rw [if_pos e, decide_eq_true (show i + 1 = len t by omega), Bool.true_and, decide_eq_true (show 0 < len t by omega), Bool.true_and, Nat.testBit_two_pow, e]
                                          · rw [if_neg e, Nat.zero_testBit, decide_eq_false (show ¬ i + 1 = len t by omega), Bool.false_and]
                                      · omega
                                    refine fk_iload_n 2 d_Md_mine_293 rfl ?_
                                    refine fk_aload_n 0 d_Md_mine_294 rfl ?_
                                    refine fk_get 0 1 rfl rfl fh_Md (Nat.le_of_ble_eq_true rfl) fw_508 rfl d_Md_mine_295 ?_
                                    refine fk_iload_n 1 d_Md_mine_298 rfl ?_
                                    refine fk_ld_ai (i := t) 1 rfl (by omega) (by decide) d_Md_mine_299 ?_
                                    refine fk_iconst (v := nI 1) d_Md_mine_300 (by decide +kernel) ?_
                                    refine fk_isub (a := (len t)) (b := 1) d_Md_mine_301 (by omega) ?_
                                    refine fk_icmp_ne (a := i) (b := ((len t) - 1)) (by omega) (by omega) d_Md_mine_302 rfl (fun h302t => ?_) (fun h302f => ?_)
                                    · refine fk_iconst (v := nI 0) d_Md_mine_309 (by decide +kernel) ?_
                                      refine L310 _ ?_ ?_
                                      · first | rw [if_pos h302f] | rw [if_neg h302t]
                                      · first | exact g10 | decide
                                    · refine fk_iload_n 3 d_Md_mine_305 rfl ?_
                                      refine fk_goto d_Md_mine_306 rfl ?_
                                      refine L310 _ ?_ ?_
                                      · first | rw [if_pos h302f] | rw [if_neg h302t]
                                      · first | exact g10 | decide
                                  refine fk_iload_n 2 d_Md_mine_275 rfl ?_
                                  refine fk_if_ne (a := i) (by omega) d_Md_mine_276 rfl (fun h276t => ?_) (fun h276f => ?_)
                                  · refine fk_iconst (v := nI 0) d_Md_mine_283 (by decide +kernel) ?_
                                    refine L284 _ ?_ ?_
                                    · first | rw [if_pos h276f] | rw [if_neg h276t]
                                    · first | exact g10 | decide
                                  · refine fk_iload_n 3 d_Md_mine_279 rfl ?_
                                    refine fk_goto d_Md_mine_280 rfl ?_
                                    refine L284 _ ?_ ?_
                                    · first | rw [if_pos h276f] | rw [if_neg h276t]
                                    · first | exact g10 | decide
                            refine L234 _ _ _ _ _ ?_ ?_ ?_ ?_ (Nat.lt_succ_self _)
                            · first | omega | assumption | exact Nat.zero_le _
                            · exact h14
                            · exact h15
                            · intro a
                              have w := h16 a
                              rw [w.1, w.2.1, w.2.2]
                              refine ⟨(Bool.or_false _).symm, by simp, ?_⟩
                              by_cases e : 0 = len t
                              · rw [← e]; simp
                              · rw [decide_eq_false e]; simp
                      refine L224 _ _ _ _ _ ?_ ?_ ?_ ?_ (Nat.lt_succ_self _)
                      · first | omega | assumption | exact Nat.zero_le _
                      · exact ⟨va_up_ne _ _ (by decide), va_up_ne _ _ (by decide), va_up_ne _ _ (by decide)⟩
                      · rw [va_up_self, va_up_self, va_up_self]
                        decide
                      · intro a
                        rw [va_up_self, va_up_self, va_up_self, Nat.zero_testBit]
                        exact ⟨rfl, rfl, rfl⟩
                    · refine fk_aload_n 0 d_Md_mine_155 rfl ?_
                      refine fk_get 0 4 rfl rfl fh_Md (Nat.le_of_ble_eq_true rfl) fw_511 rfl d_Md_mine_156 ?_
                      refine fk_bipush (v := nI 14) d_Md_mine_159 (by decide +kernel) ?_
                      refine fk_iload_n 1 d_Md_mine_161 rfl ?_
                      refine fk_iadd (a := 14) (b := k) d_Md_mine_162 ?_
                      refine fk_aload_n 0 d_Md_mine_163 rfl ?_
                      refine fk_get 0 11 rfl rfl fh_Md (Nat.le_of_ble_eq_true rfl) fw_518 rfl d_Md_mine_164 ?_
                      refine fk_iload_n 1 d_Md_mine_167 rfl ?_
                      refine fk_ld_ai (i := k) 10 rfl (by omega) (by decide) d_Md_mine_168 ?_
                      refine fk_st_ai (i := (14 + k)) (x := (x1 k)) (w' := [(b0, .inr (6, [.int (nI mt), .ref b1, .ref b2, .ref b3, .ref b4, .ref b5, .ref b6, .ref b7, .ref b8, .ref b9, .int (nI n1), .ref b10, .ref b11, .ref b12, .int (nI my), .int (nI (Bool.toNat mw)), .ref b13, .ref b14, .ref b15])), fk_ai E b1 20 len, fk_ai E b2 300 ev, fk_ai E b3 2 mc, fk_ai E b4 28 (va_up i1 (14 + k) (x1 k)), fk_ai E b5 28 u1, fk_ai E b6 2 mfi, fk_ai E b7 2 mla, fk_ai E b8 2 mac, fk_ai E b9 49 b1_, fk_ai E b10 15 x1, fk_ai E b11 15 y1]) 4 rfl (by omega) (by decide) d_Md_mine_169 rfl ?_
                      refine fk_aload_n 0 d_Md_mine_170 rfl ?_
                      refine fk_get 0 5 rfl rfl fh_Md (Nat.le_of_ble_eq_true rfl) fw_512 rfl d_Md_mine_171 ?_
                      refine fk_bipush (v := nI 14) d_Md_mine_174 (by decide +kernel) ?_
                      refine fk_iload_n 1 d_Md_mine_176 rfl ?_
                      refine fk_iadd (a := 14) (b := k) d_Md_mine_177 ?_
                      refine fk_aload_n 0 d_Md_mine_178 rfl ?_
                      refine fk_get 0 12 rfl rfl fh_Md (Nat.le_of_ble_eq_true rfl) fw_519 rfl d_Md_mine_179 ?_
                      refine fk_iload_n 1 d_Md_mine_182 rfl ?_
                      refine fk_ld_ai (i := k) 11 rfl (by omega) (by decide) d_Md_mine_183 ?_
                      refine fk_st_ai (i := (14 + k)) (x := (y1 k)) (w' := [(b0, .inr (6, [.int (nI mt), .ref b1, .ref b2, .ref b3, .ref b4, .ref b5, .ref b6, .ref b7, .ref b8, .ref b9, .int (nI n1), .ref b10, .ref b11, .ref b12, .int (nI my), .int (nI (Bool.toNat mw)), .ref b13, .ref b14, .ref b15])), fk_ai E b1 20 len, fk_ai E b2 300 ev, fk_ai E b3 2 mc, fk_ai E b4 28 (va_up i1 (14 + k) (x1 k)), fk_ai E b5 28 (va_up u1 (14 + k) (y1 k)), fk_ai E b6 2 mfi, fk_ai E b7 2 mla, fk_ai E b8 2 mac, fk_ai E b9 49 b1_, fk_ai E b10 15 x1, fk_ai E b11 15 y1]) 5 rfl (by omega) (by decide) d_Md_mine_184 rfl ?_
                      refine fk_iinc (j := 1) (lv' := [(0, .ref b0), (1, .int (nI (k + 1)))]) (k + 1) d_Md_mine_185 rfl (nI_1 k) (Nat.le_of_ble_eq_true rfl) [1, 0] rfl ?_
                      refine fk_goto d_Md_mine_188 rfl ?_
                      refine ih147 _ _ _ ?_ ?_ ?_ ?_ ?_
                      · first | omega | assumption | exact Nat.zero_le _
                      · intro z hz
                        rw [va_up_ne _ _ (by omega), va_up_ne _ _ (by omega)]
                        exact h10 z hz
                      · intro z hz
                        rcases Nat.lt_or_ge z k with w | w
                        · rw [va_up_ne _ _ (by omega), va_up_ne _ _ (by omega)]; exact h11 z w
                        · rw [show z = k by omega, va_up_self, va_up_self]; exact ⟨rfl, rfl⟩
                      · intro z hz
                        have w := fr_P_lt g6 (by omega) (Nat.le_refl _) h152f
                        by_cases e : z = 14 + k
                        · rw [e, va_up_self, va_up_self]; exact w
                        · rw [va_up_ne _ _ e, va_up_ne _ _ e]; exact h12 z hz
                      · omega
                refine L147 _ _ _ _ ?_ ?_ ?_ ?_ (Nat.lt_succ_self _)
                · first | omega | assumption | exact Nat.zero_le _
                · exact fun _ _ => ⟨rfl, rfl⟩
                · exact fun z hz => absurd hz (Nat.not_lt_zero z)
                · exact hN.1
              · have w := h5.2.2 (by omega)
                omega
            · refine fk_aload_n 0 d_Md_mine_46 rfl ?_
              refine fk_get 0 10 rfl rfl fh_Md (Nat.le_of_ble_eq_true rfl) fw_517 rfl d_Md_mine_47 ?_
              refine fk_bipush (v := nI 15) d_Md_mine_50 (by decide +kernel) ?_
              refine fk_icmp_ge (a := n1) (b := 15) (by omega) (by omega) d_Md_mine_52 rfl (fun h52t => ?_) (fun h52f => ?_)
              · refine fk_aload_n 0 d_Md_mine_133 rfl ?_
                refine fk_get 0 10 rfl rfl fh_Md (Nat.le_of_ble_eq_true rfl) fw_517 rfl d_Md_mine_134 ?_
                refine fk_bipush (v := nI 14) d_Md_mine_137 (by decide +kernel) ?_
                refine fk_icmp_le (a := n1) (b := 14) (by omega) (by omega) d_Md_mine_139 rfl (fun h139t => ?_) (fun h139f => ?_)
                · have g5 : l = 128 := by omega
                  have g6 : fr_P (fg_fl mt len ev) 16384 n1 x1 y1 := by rw [g5] at h5; exact h5
                  have g7 := (g6.2.1 (by omega)).1
                  refine fk_iconst (v := nI 0) d_Md_mine_145 (by decide +kernel) ?_
                  refine fk_istore_n (lv' := [(0, .ref b0), (1, .int (nI 0))]) d_Md_mine_146 rfl (Nat.le_of_ble_eq_true rfl) [1, 0] rfl ?_
                  have L147 : ∀ (fuel : Nat) (k : Nat) (i1 : Nat → Nat) (u1 : Nat → Nat), (k ≤ n1) → (∀ z, z < 14 → i1 z = mi z ∧ u1 z = mu z) → (∀ z, z < k → i1 (14 + z) = x1 z ∧ u1 (14 + z) = y1 z) → (∀ z, z < 28 → i1 z < 128 ∧ u1 z < 128) → n1 - k < fuel → fk_V E (prog_8_method_12_code, fy_Md_mine.cls, 4, fk_rm 3 0 0) K (0, 0) [(b0, .inr (6, [.int (nI mt), .ref b1, .ref b2, .ref b3, .ref b4, .ref b5, .ref b6, .ref b7, .ref b8, .ref b9, .int (nI n1), .ref b10, .ref b11, .ref b12, .int (nI my), .int (nI (Bool.toNat mw)), .ref b13, .ref b14, .ref b15])), fk_ai E b1 20 len, fk_ai E b2 300 ev, fk_ai E b3 2 mc, fk_ai E b4 28 i1, fk_ai E b5 28 u1, fk_ai E b6 2 mfi, fk_ai E b7 2 mla, fk_ai E b8 2 mac, fk_ai E b9 49 b1_, fk_ai E b10 15 x1, fk_ai E b11 15 y1] 147 [(0, .ref b0), (1, .int (nI k))] [] := by
                    intro fuel
                    induction fuel with
                    | zero => intro k i1 u1 _ _ _ _ hm; exact absurd hm (Nat.not_lt_zero _)
                    | succ fuel ih =>
                      intro k i1 u1 h9 h10 h11 h12 hm147
                      have ih147 := ih
                      clear ih
                      refine fk_iload_n 1 d_Md_mine_147 rfl ?_
                      refine fk_aload_n 0 d_Md_mine_148 rfl ?_
                      refine fk_get 0 10 rfl rfl fh_Md (Nat.le_of_ble_eq_true rfl) fw_517 rfl d_Md_mine_149 ?_
                      refine fk_icmp_ge (a := k) (b := n1) (by omega) (by omega) d_Md_mine_152 rfl (fun h152t => ?_) (fun h152f => ?_)
                      · refine fk_aload_n 0 d_Md_mine_191 rfl ?_
                        refine fk_get 0 3 rfl rfl fh_Md (Nat.le_of_ble_eq_true rfl) fw_510 rfl d_Md_mine_192 ?_
                        refine fk_iconst (v := nI 1) d_Md_mine_195 (by decide +kernel) ?_
                        refine fk_aload_n 0 d_Md_mine_196 rfl ?_
                        refine fk_get 0 10 rfl rfl fh_Md (Nat.le_of_ble_eq_true rfl) fw_517 rfl d_Md_mine_197 ?_
                        refine fk_st_ai (i := 1) (x := n1) (w' := [(b0, .inr (6, [.int (nI mt), .ref b1, .ref b2, .ref b3, .ref b4, .ref b5, .ref b6, .ref b7, .ref b8, .ref b9, .int (nI n1), .ref b10, .ref b11, .ref b12, .int (nI my), .int (nI (Bool.toNat mw)), .ref b13, .ref b14, .ref b15])), fk_ai E b1 20 len, fk_ai E b2 300 ev, fk_ai E b3 2 (va_up mc 1 n1), fk_ai E b4 28 i1, fk_ai E b5 28 u1, fk_ai E b6 2 mfi, fk_ai E b7 2 mla, fk_ai E b8 2 mac, fk_ai E b9 49 b1_, fk_ai E b10 15 x1, fk_ai E b11 15 y1]) 3 rfl (by omega) (by decide) d_Md_mine_200 rfl ?_
                        refine fk_aload_n 0 d_Md_mine_201 rfl ?_
                        refine fk_get 0 6 rfl rfl fh_Md (Nat.le_of_ble_eq_true rfl) fw_513 rfl d_Md_mine_202 ?_
                        refine fk_iconst (v := nI 1) d_Md_mine_205 (by decide +kernel) ?_
                        refine fk_iconst (v := nI 0) d_Md_mine_206 (by decide +kernel) ?_
                        refine fk_st_ai (i := 1) (x := 0) (w' := [(b0, .inr (6, [.int (nI mt), .ref b1, .ref b2, .ref b3, .ref b4, .ref b5, .ref b6, .ref b7, .ref b8, .ref b9, .int (nI n1), .ref b10, .ref b11, .ref b12, .int (nI my), .int (nI (Bool.toNat mw)), .ref b13, .ref b14, .ref b15])), fk_ai E b1 20 len, fk_ai E b2 300 ev, fk_ai E b3 2 (va_up mc 1 n1), fk_ai E b4 28 i1, fk_ai E b5 28 u1, fk_ai E b6 2 (va_up mfi 1 0), fk_ai E b7 2 mla, fk_ai E b8 2 mac, fk_ai E b9 49 b1_, fk_ai E b10 15 x1, fk_ai E b11 15 y1]) 6 rfl (by omega) (by decide) d_Md_mine_207 rfl ?_
                        refine fk_aload_n 0 d_Md_mine_208 rfl ?_
                        refine fk_get 0 7 rfl rfl fh_Md (Nat.le_of_ble_eq_true rfl) fw_514 rfl d_Md_mine_209 ?_
                        refine fk_iconst (v := nI 1) d_Md_mine_212 (by decide +kernel) ?_
                        refine fk_iconst (v := nI 0) d_Md_mine_213 (by decide +kernel) ?_
                        refine fk_st_ai (i := 1) (x := 0) (w' := [(b0, .inr (6, [.int (nI mt), .ref b1, .ref b2, .ref b3, .ref b4, .ref b5, .ref b6, .ref b7, .ref b8, .ref b9, .int (nI n1), .ref b10, .ref b11, .ref b12, .int (nI my), .int (nI (Bool.toNat mw)), .ref b13, .ref b14, .ref b15])), fk_ai E b1 20 len, fk_ai E b2 300 ev, fk_ai E b3 2 (va_up mc 1 n1), fk_ai E b4 28 i1, fk_ai E b5 28 u1, fk_ai E b6 2 (va_up mfi 1 0), fk_ai E b7 2 (va_up mla 1 0), fk_ai E b8 2 mac, fk_ai E b9 49 b1_, fk_ai E b10 15 x1, fk_ai E b11 15 y1]) 7 rfl (by omega) (by decide) d_Md_mine_214 rfl ?_
                        refine fk_aload_n 0 d_Md_mine_215 rfl ?_
                        refine fk_get 0 8 rfl rfl fh_Md (Nat.le_of_ble_eq_true rfl) fw_515 rfl d_Md_mine_216 ?_
                        refine fk_iconst (v := nI 1) d_Md_mine_219 (by decide +kernel) ?_
                        refine fk_iconst (v := nI 0) d_Md_mine_220 (by decide +kernel) ?_
                        refine fk_st_ai (i := 1) (x := 0) (w' := [(b0, .inr (6, [.int (nI mt), .ref b1, .ref b2, .ref b3, .ref b4, .ref b5, .ref b6, .ref b7, .ref b8, .ref b9, .int (nI n1), .ref b10, .ref b11, .ref b12, .int (nI my), .int (nI (Bool.toNat mw)), .ref b13, .ref b14, .ref b15])), fk_ai E b1 20 len, fk_ai E b2 300 ev, fk_ai E b3 2 (va_up mc 1 n1), fk_ai E b4 28 i1, fk_ai E b5 28 u1, fk_ai E b6 2 (va_up mfi 1 0), fk_ai E b7 2 (va_up mla 1 0), fk_ai E b8 2 (va_up mac 1 0), fk_ai E b9 49 b1_, fk_ai E b10 15 x1, fk_ai E b11 15 y1]) 8 rfl (by omega) (by decide) d_Md_mine_221 rfl ?_
                        refine fk_iconst (v := nI 0) d_Md_mine_222 (by decide +kernel) ?_
                        refine fk_istore_n (lv' := [(0, .ref b0), (1, .int (nI 0))]) d_Md_mine_223 rfl (Nat.le_of_ble_eq_true rfl) [1, 0] rfl ?_
                        have L224 : ∀ (fuel : Nat) (t : Nat) (c1 : Nat → Nat) (f1 : Nat → Nat) (l1 : Nat → Nat), (t ≤ mt) → (c1 0 = mac 0 ∧ f1 0 = mfi 0 ∧ l1 0 = mla 0) → (c1 1 < 128 ∧ f1 1 < 128 ∧ l1 1 < 128) → (∀ a, (c1 1).testBit a = fg_oc t len ev a ∧ (f1 1).testBit a = fg_be t len ev a ∧ (l1 1).testBit a = fg_nd t len ev a) → mt - t < fuel → fk_V E (prog_8_method_12_code, fy_Md_mine.cls, 4, fk_rm 3 0 0) K (0, 0) [(b0, .inr (6, [.int (nI mt), .ref b1, .ref b2, .ref b3, .ref b4, .ref b5, .ref b6, .ref b7, .ref b8, .ref b9, .int (nI n1), .ref b10, .ref b11, .ref b12, .int (nI my), .int (nI (Bool.toNat mw)), .ref b13, .ref b14, .ref b15])), fk_ai E b1 20 len, fk_ai E b2 300 ev, fk_ai E b3 2 (va_up mc 1 n1), fk_ai E b4 28 i1, fk_ai E b5 28 u1, fk_ai E b6 2 f1, fk_ai E b7 2 l1, fk_ai E b8 2 c1, fk_ai E b9 49 b1_, fk_ai E b10 15 x1, fk_ai E b11 15 y1] 224 [(0, .ref b0), (1, .int (nI t))] [] := by
                          intro fuel
                          induction fuel with
                          | zero => intro t c1 f1 l1 _ _ _ _ hm; exact absurd hm (Nat.not_lt_zero _)
                          | succ fuel ih =>
                            intro t c1 f1 l1 h13 h14 h15 h16 hm224
                            have ih224 := ih
                            clear ih
                            refine fk_iload_n 1 d_Md_mine_224 rfl ?_
                            refine fk_aload_n 0 d_Md_mine_225 rfl ?_
                            refine fk_get 0 0 rfl rfl fh_Md (Nat.le_of_ble_eq_true rfl) fw_507 rfl d_Md_mine_226 ?_
                            refine fk_icmp_ge (a := t) (b := mt) (by omega) (by omega) d_Md_mine_229 rfl (fun h229t => ?_) (fun h229f => ?_)
                            · refine fk_aload_n 0 d_Md_mine_324 rfl ?_
                              refine fk_get 0 10 rfl rfl fh_Md (Nat.le_of_ble_eq_true rfl) fw_517 rfl d_Md_mine_325 ?_
                              have hpp : n1 = (fg_L (fg_fl mt len ev) 16384).length ∧ (∀ z, z < 14 → i1 z = mi z ∧ u1 z = mu z) ∧ (∀ z, z < n1 → i1 (14 + z) = (fg_L (fg_fl mt len ev) 16384).getD z 0 / 128 ∧ u1 (14 + z) = (fg_L (fg_fl mt len ev) 16384).getD z 0 % 128) ∧ (∀ z, z < 28 → i1 z < 128 ∧ u1 z < 128) ∧ (c1 0 = mac 0 ∧ f1 0 = mfi 0 ∧ l1 0 = mla 0) ∧ f1 1 = fs_set (fg_be mt len ev) 7 ∧ l1 1 = fs_set (fg_nd mt len ev) 7 ∧ c1 1 = fs_set (fg_oc mt len ev) 7 := by
                                have e9 : t = mt := by omega
                                rw [e9] at h16
                                exact ⟨g7, h10, fun z hz => by rw [(h11 z (by omega)).1, (h11 z (by omega)).2]; exact (g6.2.1 (by omega)).2 z hz, h12, h14, fs_set_of h15.2.1 (fun a => (h16 a).2.1), fs_set_of h15.2.2 (fun a => (h16 a).2.2), fs_set_of h15.1 (fun a => (h16 a).1)⟩
                              exact hret (0, 0) _ 328 _ (n1, b1_, x1, y1, i1, u1, f1, l1, c1) d_Md_mine_328 (hpp) (rfl)
                            · refine fk_iconst (v := nI 0) d_Md_mine_232 (by decide +kernel) ?_
                              refine fk_istore_n (lv' := [(0, .ref b0), (1, .int (nI t)), (2, .int (nI 0))]) d_Md_mine_233 rfl (Nat.le_of_ble_eq_true rfl) [1, 2, 0] rfl ?_
                              have L234 : ∀ (fuel : Nat) (i : Nat) (c2 : Nat → Nat) (f2 : Nat → Nat) (l2 : Nat → Nat), (i ≤ len t) → (c2 0 = mac 0 ∧ f2 0 = mfi 0 ∧ l2 0 = mla 0) → (c2 1 < 128 ∧ f2 1 < 128 ∧ l2 1 < 128) → (∀ a, (c2 1).testBit a = (fg_oc t len ev a || fs_any (fun z => decide (ev (15 * t + z) = a)) i) ∧ (f2 1).testBit a = (fg_be t len ev a || (decide (0 < i) && decide (ev (15 * t + 0) = a))) ∧ (l2 1).testBit a = (fg_nd t len ev a || (decide (i = len t) && (decide (0 < len t) && decide (ev (15 * t + (len t - 1)) = a))))) → len t - i < fuel → fk_V E (prog_8_method_12_code, fy_Md_mine.cls, 4, fk_rm 3 0 0) K (0, 0) [(b0, .inr (6, [.int (nI mt), .ref b1, .ref b2, .ref b3, .ref b4, .ref b5, .ref b6, .ref b7, .ref b8, .ref b9, .int (nI n1), .ref b10, .ref b11, .ref b12, .int (nI my), .int (nI (Bool.toNat mw)), .ref b13, .ref b14, .ref b15])), fk_ai E b1 20 len, fk_ai E b2 300 ev, fk_ai E b3 2 (va_up mc 1 n1), fk_ai E b4 28 i1, fk_ai E b5 28 u1, fk_ai E b6 2 f2, fk_ai E b7 2 l2, fk_ai E b8 2 c2, fk_ai E b9 49 b1_, fk_ai E b10 15 x1, fk_ai E b11 15 y1] 234 [(0, .ref b0), (1, .int (nI t)), (2, .int (nI i))] [] := by
                                intro fuel
                                induction fuel with
                                | zero => intro i c2 f2 l2 _ _ _ _ hm; exact absurd hm (Nat.not_lt_zero _)
                                | succ fuel ih =>
                                  intro i c2 f2 l2 h17 h18 h19 h20 hm234
                                  have ih234 := ih
                                  clear ih
                                  have g8 := hl t (by omega)
                                  refine fk_iload_n 2 d_Md_mine_234 rfl ?_
                                  refine fk_aload_n 0 d_Md_mine_235 rfl ?_
                                  refine fk_get 0 1 rfl rfl fh_Md (Nat.le_of_ble_eq_true rfl) fw_508 rfl d_Md_mine_236 ?_
                                  refine fk_iload_n 1 d_Md_mine_239 rfl ?_
                                  refine fk_ld_ai (i := t) 1 rfl (by omega) (by decide) d_Md_mine_240 ?_
                                  refine fk_icmp_ge (a := i) (b := (len t)) (by omega) (by omega) d_Md_mine_241 rfl (fun h241t => ?_) (fun h241f => ?_)
                                  · refine fk_iinc (j := 1) (lv' := [(0, .ref b0), (1, .int (nI (t + 1))), (2, .int (nI i))]) (t + 1) d_Md_mine_318 rfl (nI_1 t) (Nat.le_of_ble_eq_true rfl) [1, 0, 2] rfl ?_
                                    refine fk_goto d_Md_mine_321 rfl ?_
                                    refine fk_lv (lv' := [(0, .ref b0), (1, .int (nI (t + 1)))]) [0, 1] rfl ?_
                                    refine ih224 _ _ _ _ ?_ ?_ ?_ ?_ ?_
                                    · first | omega | assumption | exact Nat.zero_le _
                                    · exact h18
                                    · exact h19
                                    · intro a
                                      have w := h20 a
                                      rw [fg_oc_s, fg_be_s, fg_nd_s, w.1, w.2.1, w.2.2, show i = len t by omega]
                                      refine ⟨rfl, rfl, ?_⟩
                                      congr 1
                                      rw [decide_eq_true (show len t = len t from rfl), Bool.true_and]
                                    · omega
                                  · have g9 := he t (by omega) i h241f
                                    have g10 := fb_pow_lt g9
                                    refine fk_iconst (v := nI 1) d_Md_mine_244 (by decide +kernel) ?_
                                    refine fk_aload_n 0 d_Md_mine_245 rfl ?_
                                    refine fk_get 0 2 rfl rfl fh_Md (Nat.le_of_ble_eq_true rfl) fw_509 rfl d_Md_mine_246 ?_
                                    refine fk_bipush (v := nI 15) d_Md_mine_249 (by decide +kernel) ?_
                                    refine fk_iload_n 1 d_Md_mine_251 rfl ?_
                                    refine fk_imul (a := 15) (b := t) d_Md_mine_252 ?_
                                    refine fk_iload_n 2 d_Md_mine_253 rfl ?_
                                    refine fk_iadd (a := (15 * t)) (b := i) d_Md_mine_254 ?_
                                    refine fk_ld_ai (i := ((15 * t) + i)) 2 rfl (by omega) (by decide) d_Md_mine_255 ?_
                                    refine fk_ishl (a := 1) (b := (ev ((15 * t) + i))) d_Md_mine_256 (by omega) (by omega) ?_
                                    refine fk_top (show nI (1 * 2 ^ (ev ((15 * t) + i))) = nI (2 ^ (ev ((15 * t) + i))) by rw [Nat.one_mul]) ?_
                                    refine fk_istore_n (lv' := [(0, .ref b0), (1, .int (nI t)), (2, .int (nI i)), (3, .int (nI (2 ^ (ev ((15 * t) + i)))))]) d_Md_mine_257 rfl (Nat.le_of_ble_eq_true rfl) [1, 2, 3, 0] rfl ?_
                                    refine fk_aload_n 0 d_Md_mine_258 rfl ?_
                                    refine fk_get 0 8 rfl rfl fh_Md (Nat.le_of_ble_eq_true rfl) fw_515 rfl d_Md_mine_259 ?_
                                    refine fk_iconst (v := nI 1) d_Md_mine_262 (by decide +kernel) ?_
                                    refine fk_dup2 d_Md_mine_263 rfl rfl ?_
                                    refine fk_ld_ai (i := 1) 8 rfl (by omega) (by decide) d_Md_mine_264 ?_
                                    refine fk_iload_n 3 d_Md_mine_265 rfl ?_
                                    refine fk_ior (a := (c2 1)) (b := (2 ^ (ev ((15 * t) + i)))) d_Md_mine_266 ?_
                                    refine fk_st_ai (i := 1) (x := ((c2 1) ||| (2 ^ (ev ((15 * t) + i))))) (w' := [(b0, .inr (6, [.int (nI mt), .ref b1, .ref b2, .ref b3, .ref b4, .ref b5, .ref b6, .ref b7, .ref b8, .ref b9, .int (nI n1), .ref b10, .ref b11, .ref b12, .int (nI my), .int (nI (Bool.toNat mw)), .ref b13, .ref b14, .ref b15])), fk_ai E b1 20 len, fk_ai E b2 300 ev, fk_ai E b3 2 (va_up mc 1 n1), fk_ai E b4 28 i1, fk_ai E b5 28 u1, fk_ai E b6 2 f2, fk_ai E b7 2 l2, fk_ai E b8 2 (va_up c2 1 ((c2 1) ||| (2 ^ (ev ((15 * t) + i))))), fk_ai E b9 49 b1_, fk_ai E b10 15 x1, fk_ai E b11 15 y1]) 8 rfl (by omega) (by decide) d_Md_mine_267 rfl ?_
                                    refine fk_aload_n 0 d_Md_mine_268 rfl ?_
                                    refine fk_get 0 6 rfl rfl fh_Md (Nat.le_of_ble_eq_true rfl) fw_513 rfl d_Md_mine_269 ?_
                                    refine fk_iconst (v := nI 1) d_Md_mine_272 (by decide +kernel) ?_
                                    refine fk_dup2 d_Md_mine_273 rfl rfl ?_
                                    refine fk_ld_ai (i := 1) 6 rfl (by omega) (by decide) d_Md_mine_274 ?_
                                    have L284 : ∀ (v : Nat), (v = if i = 0 then 2 ^ ev (15 * t + i) else 0) → (v < 128) → fk_V E (prog_8_method_12_code, fy_Md_mine.cls, 4, fk_rm 3 0 0) K (0, 0) [(b0, .inr (6, [.int (nI mt), .ref b1, .ref b2, .ref b3, .ref b4, .ref b5, .ref b6, .ref b7, .ref b8, .ref b9, .int (nI n1), .ref b10, .ref b11, .ref b12, .int (nI my), .int (nI (Bool.toNat mw)), .ref b13, .ref b14, .ref b15])), fk_ai E b1 20 len, fk_ai E b2 300 ev, fk_ai E b3 2 (va_up mc 1 n1), fk_ai E b4 28 i1, fk_ai E b5 28 u1, fk_ai E b6 2 f2, fk_ai E b7 2 l2, fk_ai E b8 2 (va_up c2 1 ((c2 1) ||| (2 ^ (ev ((15 * t) + i))))), fk_ai E b9 49 b1_, fk_ai E b10 15 x1, fk_ai E b11 15 y1] 284 [(0, .ref b0), (1, .int (nI t)), (2, .int (nI i)), (3, .int (nI (2 ^ (ev ((15 * t) + i)))))] [.int (nI v), .int (nI (f2 1)), .int (nI 1), .ref b6] := by
                                      intro v j1 j1b
                                      refine fk_ior (a := (f2 1)) (b := v) d_Md_mine_284 ?_
                                      refine fk_st_ai (i := 1) (x := ((f2 1) ||| v)) (w' := [(b0, .inr (6, [.int (nI mt), .ref b1, .ref b2, .ref b3, .ref b4, .ref b5, .ref b6, .ref b7, .ref b8, .ref b9, .int (nI n1), .ref b10, .ref b11, .ref b12, .int (nI my), .int (nI (Bool.toNat mw)), .ref b13, .ref b14, .ref b15])), fk_ai E b1 20 len, fk_ai E b2 300 ev, fk_ai E b3 2 (va_up mc 1 n1), fk_ai E b4 28 i1, fk_ai E b5 28 u1, fk_ai E b6 2 (va_up f2 1 ((f2 1) ||| v)), fk_ai E b7 2 l2, fk_ai E b8 2 (va_up c2 1 ((c2 1) ||| (2 ^ (ev ((15 * t) + i))))), fk_ai E b9 49 b1_, fk_ai E b10 15 x1, fk_ai E b11 15 y1]) 6 rfl (by omega) (by decide) d_Md_mine_285 rfl ?_
                                      refine fk_aload_n 0 d_Md_mine_286 rfl ?_
                                      refine fk_get 0 7 rfl rfl fh_Md (Nat.le_of_ble_eq_true rfl) fw_514 rfl d_Md_mine_287 ?_
                                      refine fk_iconst (v := nI 1) d_Md_mine_290 (by decide +kernel) ?_
                                      refine fk_dup2 d_Md_mine_291 rfl rfl ?_
                                      refine fk_ld_ai (i := 1) 7 rfl (by omega) (by decide) d_Md_mine_292 ?_
                                      have L310 : ∀ (v2 : Nat), (v2 = if i = len t - 1 then 2 ^ ev (15 * t + i) else 0) → (v2 < 128) → fk_V E (prog_8_method_12_code, fy_Md_mine.cls, 4, fk_rm 3 0 0) K (0, 0) [(b0, .inr (6, [.int (nI mt), .ref b1, .ref b2, .ref b3, .ref b4, .ref b5, .ref b6, .ref b7, .ref b8, .ref b9, .int (nI n1), .ref b10, .ref b11, .ref b12, .int (nI my), .int (nI (Bool.toNat mw)), .ref b13, .ref b14, .ref b15])), fk_ai E b1 20 len, fk_ai E b2 300 ev, fk_ai E b3 2 (va_up mc 1 n1), fk_ai E b4 28 i1, fk_ai E b5 28 u1, fk_ai E b6 2 (va_up f2 1 ((f2 1) ||| v)), fk_ai E b7 2 l2, fk_ai E b8 2 (va_up c2 1 ((c2 1) ||| (2 ^ (ev ((15 * t) + i))))), fk_ai E b9 49 b1_, fk_ai E b10 15 x1, fk_ai E b11 15 y1] 310 [(0, .ref b0), (1, .int (nI t)), (2, .int (nI i)), (3, .int (nI (2 ^ (ev ((15 * t) + i)))))] [.int (nI v2), .int (nI (l2 1)), .int (nI 1), .ref b7] := by
                                        intro v2 j2 j2b
                                        refine fk_ior (a := (l2 1)) (b := v2) d_Md_mine_310 ?_
                                        refine fk_st_ai (i := 1) (x := ((l2 1) ||| v2)) (w' := [(b0, .inr (6, [.int (nI mt), .ref b1, .ref b2, .ref b3, .ref b4, .ref b5, .ref b6, .ref b7, .ref b8, .ref b9, .int (nI n1), .ref b10, .ref b11, .ref b12, .int (nI my), .int (nI (Bool.toNat mw)), .ref b13, .ref b14, .ref b15])), fk_ai E b1 20 len, fk_ai E b2 300 ev, fk_ai E b3 2 (va_up mc 1 n1), fk_ai E b4 28 i1, fk_ai E b5 28 u1, fk_ai E b6 2 (va_up f2 1 ((f2 1) ||| v)), fk_ai E b7 2 (va_up l2 1 ((l2 1) ||| v2)), fk_ai E b8 2 (va_up c2 1 ((c2 1) ||| (2 ^ (ev ((15 * t) + i))))), fk_ai E b9 49 b1_, fk_ai E b10 15 x1, fk_ai E b11 15 y1]) 7 rfl (by omega) (by decide) d_Md_mine_311 rfl ?_
                                        refine fk_iinc (j := 2) (lv' := [(0, .ref b0), (1, .int (nI t)), (2, .int (nI (i + 1))), (3, .int (nI (2 ^ (ev ((15 * t) + i)))))]) (i + 1) d_Md_mine_312 rfl (nI_1 i) (Nat.le_of_ble_eq_true rfl) [1, 2, 0, 3] rfl ?_
                                        refine fk_goto d_Md_mine_315 rfl ?_
                                        refine fk_lv (lv' := [(0, .ref b0), (1, .int (nI t)), (2, .int (nI (i + 1)))]) [0, 1, 2] rfl ?_
                                        refine ih234 _ _ _ _ ?_ ?_ ?_ ?_ ?_
                                        · first | omega | assumption | exact Nat.zero_le _
                                        · rw [va_up_ne _ _ (by decide), va_up_ne _ _ (by decide), va_up_ne _ _ (by decide)]
                                          exact h18
                                        · rw [va_up_self, va_up_self, va_up_self]
                                          exact ⟨fb_or_lt h19.1 g10, fb_or_lt h19.2.1 j1b, fb_or_lt h19.2.2 j2b⟩
                                        · intro a
                                          have w := h20 a
                                          rw [va_up_self, va_up_self, va_up_self, fb_or_bit, Nat.testBit_or, Nat.testBit_or, w.1, w.2.1, w.2.2, fs_any_s, Bool.or_assoc]
                                          refine ⟨rfl, ?_, ?_⟩
                                          · rw [j1, Bool.or_assoc]
                                            congr 1
                                            by_cases e : i = 0
                                            · subst e; simp [Nat.testBit_two_pow]
                                            · rw [if_neg e, Nat.zero_testBit, Bool.or_false, decide_eq_true (show 0 < i by omega), decide_eq_true (show 0 < i + 1 by omega)]
                                          · rw [j2, decide_eq_false (show ¬ i = len t by omega), Bool.false_and, Bool.or_false]
                                            congr 1
                                            by_cases e : i = len t - 1
                                            · rw [if_pos e, decide_eq_true (show i + 1 = len t by omega), Bool.true_and, decide_eq_true (show 0 < len t by omega), Bool.true_and, Nat.testBit_two_pow, e]
                                            · rw [if_neg e, Nat.zero_testBit, decide_eq_false (show ¬ i + 1 = len t by omega), Bool.false_and]
                                        · omega
                                      refine fk_iload_n 2 d_Md_mine_293 rfl ?_
                                      refine fk_aload_n 0 d_Md_mine_294 rfl ?_
                                      refine fk_get 0 1 rfl rfl fh_Md (Nat.le_of_ble_eq_true rfl) fw_508 rfl d_Md_mine_295 ?_
                                      refine fk_iload_n 1 d_Md_mine_298 rfl ?_
                                      refine fk_ld_ai (i := t) 1 rfl (by omega) (by decide) d_Md_mine_299 ?_
                                      refine fk_iconst (v := nI 1) d_Md_mine_300 (by decide +kernel) ?_
                                      refine fk_isub (a := (len t)) (b := 1) d_Md_mine_301 (by omega) ?_
                                      refine fk_icmp_ne (a := i) (b := ((len t) - 1)) (by omega) (by omega) d_Md_mine_302 rfl (fun h302t => ?_) (fun h302f => ?_)
                                      · refine fk_iconst (v := nI 0) d_Md_mine_309 (by decide +kernel) ?_
                                        refine L310 _ ?_ ?_
                                        · first | rw [if_pos h302f] | rw [if_neg h302t]
                                        · first | exact g10 | decide
                                      · refine fk_iload_n 3 d_Md_mine_305 rfl ?_
                                        refine fk_goto d_Md_mine_306 rfl ?_
                                        refine L310 _ ?_ ?_
                                        · first | rw [if_pos h302f] | rw [if_neg h302t]
                                        · first | exact g10 | decide
                                    refine fk_iload_n 2 d_Md_mine_275 rfl ?_
                                    refine fk_if_ne (a := i) (by omega) d_Md_mine_276 rfl (fun h276t => ?_) (fun h276f => ?_)
                                    · refine fk_iconst (v := nI 0) d_Md_mine_283 (by decide +kernel) ?_
                                      refine L284 _ ?_ ?_
                                      · first | rw [if_pos h276f] | rw [if_neg h276t]
                                      · first | exact g10 | decide
                                    · refine fk_iload_n 3 d_Md_mine_279 rfl ?_
                                      refine fk_goto d_Md_mine_280 rfl ?_
                                      refine L284 _ ?_ ?_
                                      · first | rw [if_pos h276f] | rw [if_neg h276t]
                                      · first | exact g10 | decide
                              refine L234 _ _ _ _ _ ?_ ?_ ?_ ?_ (Nat.lt_succ_self _)
                              · first | omega | assumption | exact Nat.zero_le _
                              · exact h14
                              · exact h15
                              · intro a
                                have w := h16 a
                                rw [w.1, w.2.1, w.2.2]
                                refine ⟨(Bool.or_false _).symm, by simp, ?_⟩
                                by_cases e : 0 = len t
                                · rw [← e]; simp
                                · rw [decide_eq_false e]; simp
                        refine L224 _ _ _ _ _ ?_ ?_ ?_ ?_ (Nat.lt_succ_self _)
                        · first | omega | assumption | exact Nat.zero_le _
                        · exact ⟨va_up_ne _ _ (by decide), va_up_ne _ _ (by decide), va_up_ne _ _ (by decide)⟩
                        · rw [va_up_self, va_up_self, va_up_self]
                          decide
                        · intro a
                          rw [va_up_self, va_up_self, va_up_self, Nat.zero_testBit]
                          exact ⟨rfl, rfl, rfl⟩
                      · refine fk_aload_n 0 d_Md_mine_155 rfl ?_
                        refine fk_get 0 4 rfl rfl fh_Md (Nat.le_of_ble_eq_true rfl) fw_511 rfl d_Md_mine_156 ?_
                        refine fk_bipush (v := nI 14) d_Md_mine_159 (by decide +kernel) ?_
                        refine fk_iload_n 1 d_Md_mine_161 rfl ?_
                        refine fk_iadd (a := 14) (b := k) d_Md_mine_162 ?_
                        refine fk_aload_n 0 d_Md_mine_163 rfl ?_
                        refine fk_get 0 11 rfl rfl fh_Md (Nat.le_of_ble_eq_true rfl) fw_518 rfl d_Md_mine_164 ?_
                        refine fk_iload_n 1 d_Md_mine_167 rfl ?_
                        refine fk_ld_ai (i := k) 10 rfl (by omega) (by decide) d_Md_mine_168 ?_
                        refine fk_st_ai (i := (14 + k)) (x := (x1 k)) (w' := [(b0, .inr (6, [.int (nI mt), .ref b1, .ref b2, .ref b3, .ref b4, .ref b5, .ref b6, .ref b7, .ref b8, .ref b9, .int (nI n1), .ref b10, .ref b11, .ref b12, .int (nI my), .int (nI (Bool.toNat mw)), .ref b13, .ref b14, .ref b15])), fk_ai E b1 20 len, fk_ai E b2 300 ev, fk_ai E b3 2 mc, fk_ai E b4 28 (va_up i1 (14 + k) (x1 k)), fk_ai E b5 28 u1, fk_ai E b6 2 mfi, fk_ai E b7 2 mla, fk_ai E b8 2 mac, fk_ai E b9 49 b1_, fk_ai E b10 15 x1, fk_ai E b11 15 y1]) 4 rfl (by omega) (by decide) d_Md_mine_169 rfl ?_
                        refine fk_aload_n 0 d_Md_mine_170 rfl ?_
                        refine fk_get 0 5 rfl rfl fh_Md (Nat.le_of_ble_eq_true rfl) fw_512 rfl d_Md_mine_171 ?_
                        refine fk_bipush (v := nI 14) d_Md_mine_174 (by decide +kernel) ?_
                        refine fk_iload_n 1 d_Md_mine_176 rfl ?_
                        refine fk_iadd (a := 14) (b := k) d_Md_mine_177 ?_
                        refine fk_aload_n 0 d_Md_mine_178 rfl ?_
                        refine fk_get 0 12 rfl rfl fh_Md (Nat.le_of_ble_eq_true rfl) fw_519 rfl d_Md_mine_179 ?_
                        refine fk_iload_n 1 d_Md_mine_182 rfl ?_
                        refine fk_ld_ai (i := k) 11 rfl (by omega) (by decide) d_Md_mine_183 ?_
                        refine fk_st_ai (i := (14 + k)) (x := (y1 k)) (w' := [(b0, .inr (6, [.int (nI mt), .ref b1, .ref b2, .ref b3, .ref b4, .ref b5, .ref b6, .ref b7, .ref b8, .ref b9, .int (nI n1), .ref b10, .ref b11, .ref b12, .int (nI my), .int (nI (Bool.toNat mw)), .ref b13, .ref b14, .ref b15])), fk_ai E b1 20 len, fk_ai E b2 300 ev, fk_ai E b3 2 mc, fk_ai E b4 28 (va_up i1 (14 + k) (x1 k)), fk_ai E b5 28 (va_up u1 (14 + k) (y1 k)), fk_ai E b6 2 mfi, fk_ai E b7 2 mla, fk_ai E b8 2 mac, fk_ai E b9 49 b1_, fk_ai E b10 15 x1, fk_ai E b11 15 y1]) 5 rfl (by omega) (by decide) d_Md_mine_184 rfl ?_
                        refine fk_iinc (j := 1) (lv' := [(0, .ref b0), (1, .int (nI (k + 1)))]) (k + 1) d_Md_mine_185 rfl (nI_1 k) (Nat.le_of_ble_eq_true rfl) [1, 0] rfl ?_
                        refine fk_goto d_Md_mine_188 rfl ?_
                        refine ih147 _ _ _ ?_ ?_ ?_ ?_ ?_
                        · first | omega | assumption | exact Nat.zero_le _
                        · intro z hz
                          rw [va_up_ne _ _ (by omega), va_up_ne _ _ (by omega)]
                          exact h10 z hz
                        · intro z hz
                          rcases Nat.lt_or_ge z k with w | w
                          · rw [va_up_ne _ _ (by omega), va_up_ne _ _ (by omega)]; exact h11 z w
                          · rw [show z = k by omega, va_up_self, va_up_self]; exact ⟨rfl, rfl⟩
                        · intro z hz
                          have w := fr_P_lt g6 (by omega) (Nat.le_refl _) h152f
                          by_cases e : z = 14 + k
                          · rw [e, va_up_self, va_up_self]; exact w
                          · rw [va_up_ne _ _ e, va_up_ne _ _ e]; exact h12 z hz
                        · omega
                  refine L147 _ _ _ _ ?_ ?_ ?_ ?_ (Nat.lt_succ_self _)
                  · first | omega | assumption | exact Nat.zero_le _
                  · exact fun _ _ => ⟨rfl, rfl⟩
                  · exact fun z hz => absurd hz (Nat.not_lt_zero z)
                  · exact hN.1
                · have w := h5.2.2 (by omega)
                  omega
              · refine fk_iconst (v := nI 1) d_Md_mine_55 (by decide +kernel) ?_
                refine fk_istore_n (lv' := [(0, .ref b0), (1, .int (nI l)), (2, .int (nI 1))]) d_Md_mine_56 rfl (Nat.le_of_ble_eq_true rfl) [1, 2, 0] rfl ?_
                have L57 : ∀ (fuel : Nat) (r : Nat) (n2 : Nat) (x2 : Nat → Nat) (y2 : Nat → Nat), (0 < r) → (r ≤ 128) → (fr_P (fg_fl mt len ev) (128 * l + r) n2 x2 y2) → 128 - r < fuel → fk_V E (prog_8_method_12_code, fy_Md_mine.cls, 4, fk_rm 3 0 0) K (0, 0) [(b0, .inr (6, [.int (nI mt), .ref b1, .ref b2, .ref b3, .ref b4, .ref b5, .ref b6, .ref b7, .ref b8, .ref b9, .int (nI n2), .ref b10, .ref b11, .ref b12, .int (nI my), .int (nI (Bool.toNat mw)), .ref b13, .ref b14, .ref b15])), fk_ai E b1 20 len, fk_ai E b2 300 ev, fk_ai E b3 2 mc, fk_ai E b4 28 mi, fk_ai E b5 28 mu, fk_ai E b6 2 mfi, fk_ai E b7 2 mla, fk_ai E b8 2 mac, fk_ai E b9 49 b1_, fk_ai E b10 15 x2, fk_ai E b11 15 y2] 57 [(0, .ref b0), (1, .int (nI l)), (2, .int (nI r))] [] := by
                  intro fuel
                  induction fuel with
                  | zero => intro r n2 x2 y2 _ _ _ hm; exact absurd hm (Nat.not_lt_zero _)
                  | succ fuel ih =>
                    intro r n2 x2 y2 h6 h7 h8 hm57
                    have ih57 := ih
                    clear ih
                    have g2 := h8.1
                    refine fk_iload_n 2 d_Md_mine_57 rfl ?_
                    refine fk_sipush (v := nI 128) d_Md_mine_58 (by decide +kernel) ?_
                    refine fk_icmp_ge (a := r) (b := 128) (by omega) (by omega) d_Md_mine_61 rfl (fun h61t => ?_) (fun h61f => ?_)
                    · refine fk_iinc (j := 1) (lv' := [(0, .ref b0), (1, .int (nI (l + 1))), (2, .int (nI r))]) (l + 1) d_Md_mine_127 rfl (nI_1 l) (Nat.le_of_ble_eq_true rfl) [1, 0, 2] rfl ?_
                      refine fk_goto d_Md_mine_130 rfl ?_
                      refine fk_lv (lv' := [(0, .ref b0), (1, .int (nI (l + 1)))]) [0, 1] rfl ?_
                      refine ih39 _ _ _ _ ?_ ?_ ?_ ?_
                      · first | omega | assumption | exact Nat.zero_le _
                      · first | omega | assumption | exact Nat.zero_le _
                      · first | (rw [show 128 * (l + 1) = 128 * l + r by omega]; exact h8) | exact fr_P_any h8 (by omega)
                      · omega
                    · refine fk_aload_n 0 d_Md_mine_64 rfl ?_
                      refine fk_get 0 10 rfl rfl fh_Md (Nat.le_of_ble_eq_true rfl) fw_517 rfl d_Md_mine_65 ?_
                      refine fk_bipush (v := nI 15) d_Md_mine_68 (by decide +kernel) ?_
                      refine fk_icmp_ge (a := n2) (b := 15) (by omega) (by omega) d_Md_mine_70 rfl (fun h70t => ?_) (fun h70f => ?_)
                      · refine fk_iinc (j := 1) (lv' := [(0, .ref b0), (1, .int (nI (l + 1))), (2, .int (nI r))]) (l + 1) d_Md_mine_127 rfl (nI_1 l) (Nat.le_of_ble_eq_true rfl) [1, 0, 2] rfl ?_
                        refine fk_goto d_Md_mine_130 rfl ?_
                        refine fk_lv (lv' := [(0, .ref b0), (1, .int (nI (l + 1)))]) [0, 1] rfl ?_
                        refine ih39 _ _ _ _ ?_ ?_ ?_ ?_
                        · first | omega | assumption | exact Nat.zero_le _
                        · first | omega | assumption | exact Nat.zero_le _
                        · first | (rw [show 128 * (l + 1) = 128 * l + r by omega]; exact h8) | exact fr_P_any h8 (by omega)
                        · omega
                      · have g3 : fg_Q (fg_fl mt len ev) (128 * l + r) = (fg_C (fg_fl mt len ev) l r && fg_G (fg_fl mt len ev) l r) := fg_Q_eq h61f
                        refine fk_aload_n 0 d_Md_mine_73 rfl ?_
                        refine fk_iload_n 1 d_Md_mine_74 rfl ?_
                        refine fk_iload_n 2 d_Md_mine_75 rfl ?_
                        refine fk_callV (q0 := 0) (As := [.int (nI l), .int (nI r)]) (rest := []) (is := [0, 9]) (ir := [1, 2, 3, 4, 5, 6, 7, 8, 10, 11]) (ip := [10, 0, 1, 2, 3, 4, 5, 6, 7, 11, 8, 9]) (wc := [(b0, .inr (6, [.int (nI mt), .ref b1, .ref b2, .ref b3, .ref b4, .ref b5, .ref b6, .ref b7, .ref b8, .ref b9, .int (nI n2), .ref b10, .ref b11, .ref b12, .int (nI my), .int (nI (Bool.toNat mw)), .ref b13, .ref b14, .ref b15])), fk_ai E b9 49 b1_]) (wr := [fk_ai E b1 20 len, fk_ai E b2 300 ev, fk_ai E b3 2 mc, fk_ai E b4 28 mi, fk_ai E b5 28 mu, fk_ai E b6 2 mfi, fk_ai E b7 2 mla, fk_ai E b8 2 mac, fk_ai E b10 15 x2, fk_ai E b11 15 y2]) (w2 := fun _ => [(b0, .inr (6, [.int (nI mt), .ref b1, .ref b2, .ref b3, .ref b4, .ref b5, .ref b6, .ref b7, .ref b8, .ref b9, .int (nI n2), .ref b10, .ref b11, .ref b12, .int (nI my), .int (nI (Bool.toNat mw)), .ref b13, .ref b14, .ref b15])), fk_ai E b1 20 len, fk_ai E b2 300 ev, fk_ai E b3 2 mc, fk_ai E b4 28 mi, fk_ai E b5 28 mu, fk_ai E b6 2 mfi, fk_ai E b7 2 mla, fk_ai E b8 2 mac, fk_ai E b9 49 b1_, fk_ai E b10 15 x2, fk_ai E b11 15 y2]) (cD_causal E b0 b1 b2 b3 b4 b5 b6 b7 b8 b9 b10 b11 b12 b13 b14 b15 mt n2 my mw b1_ (fg_fl mt len ev) l r g0 (by first | omega | assumption) (by first | omega | assumption)) d_Md_mine_76 fz_Md_causal fw_600 rfl rfl fw_602 fw_p17 ⟨Nat.le_of_ble_eq_true rfl, Nat.le_of_ble_eq_true rfl⟩ rfl (Nat.le_of_ble_eq_true rfl) ⟨Nat.zero_le _, Nat.zero_le _⟩ ⟨rfl, rfl, rfl, rfl, by decide, fun _ => rfl, rfl⟩ (fun u hu76 => ?_)
                        show fk_V E _ K (0, 0) [(b0, .inr (6, [.int (nI mt), .ref b1, .ref b2, .ref b3, .ref b4, .ref b5, .ref b6, .ref b7, .ref b8, .ref b9, .int (nI n2), .ref b10, .ref b11, .ref b12, .int (nI my), .int (nI (Bool.toNat mw)), .ref b13, .ref b14, .ref b15])), fk_ai E b1 20 len, fk_ai E b2 300 ev, fk_ai E b3 2 mc, fk_ai E b4 28 mi, fk_ai E b5 28 mu, fk_ai E b6 2 mfi, fk_ai E b7 2 mla, fk_ai E b8 2 mac, fk_ai E b9 49 b1_, fk_ai E b10 15 x2, fk_ai E b11 15 y2] 79 [(0, .ref b0), (1, .int (nI l)), (2, .int (nI r))] [.int (nI (Bool.toNat (fg_C (fg_fl mt len ev) l r)))]
                        refine fk_if_eqB (b := (fg_C (fg_fl mt len ev) l r)) d_Md_mine_79 rfl (fun h79t => ?_) (fun h79f => ?_)
                        · refine fk_iinc (j := 2) (lv' := [(0, .ref b0), (1, .int (nI l)), (2, .int (nI (r + 1)))]) (r + 1) d_Md_mine_121 rfl (nI_1 r) (Nat.le_of_ble_eq_true rfl) [1, 2, 0] rfl ?_
                          refine fk_goto d_Md_mine_124 rfl ?_
                          refine ih57 _ _ _ _ ?_ ?_ ?_ ?_
                          · first | omega | assumption | exact Nat.zero_le _
                          · first | omega | assumption | exact Nat.zero_le _
                          · rw [← Nat.add_assoc]
                            first | exact fr_P_f h8 (by rw [g3, h79t, Bool.false_and]) | exact fr_P_f h8 (by rw [g3, h88t, Bool.and_false]) | (have w := fr_P_t h8 h70f (by rw [g3, h79f, h88f, Bool.and_self]) (by omega); rw [show (128 * l + r) / 128 = l by omega, show (128 * l + r) % 128 = r by omega] at w; exact w)
                          · omega
                        · refine fk_aload_n 0 d_Md_mine_82 rfl ?_
                          refine fk_iload_n 1 d_Md_mine_83 rfl ?_
                          refine fk_iload_n 2 d_Md_mine_84 rfl ?_
                          refine fk_callV (q0 := 0) (As := [.int (nI l), .int (nI r)]) (rest := []) (is := [0, 9]) (ir := [1, 2, 3, 4, 5, 6, 7, 8, 10, 11]) (ip := [10, 0, 1, 2, 3, 4, 5, 6, 7, 11, 8, 9]) (wc := [(b0, .inr (6, [.int (nI mt), .ref b1, .ref b2, .ref b3, .ref b4, .ref b5, .ref b6, .ref b7, .ref b8, .ref b9, .int (nI n2), .ref b10, .ref b11, .ref b12, .int (nI my), .int (nI (Bool.toNat mw)), .ref b13, .ref b14, .ref b15])), fk_ai E b9 49 b1_]) (wr := [fk_ai E b1 20 len, fk_ai E b2 300 ev, fk_ai E b3 2 mc, fk_ai E b4 28 mi, fk_ai E b5 28 mu, fk_ai E b6 2 mfi, fk_ai E b7 2 mla, fk_ai E b8 2 mac, fk_ai E b10 15 x2, fk_ai E b11 15 y2]) (w2 := fun _ => [(b0, .inr (6, [.int (nI mt), .ref b1, .ref b2, .ref b3, .ref b4, .ref b5, .ref b6, .ref b7, .ref b8, .ref b9, .int (nI n2), .ref b10, .ref b11, .ref b12, .int (nI my), .int (nI (Bool.toNat mw)), .ref b13, .ref b14, .ref b15])), fk_ai E b1 20 len, fk_ai E b2 300 ev, fk_ai E b3 2 mc, fk_ai E b4 28 mi, fk_ai E b5 28 mu, fk_ai E b6 2 mfi, fk_ai E b7 2 mla, fk_ai E b8 2 mac, fk_ai E b9 49 b1_, fk_ai E b10 15 x2, fk_ai E b11 15 y2]) (cD_greatest E b0 b1 b2 b3 b4 b5 b6 b7 b8 b9 b10 b11 b12 b13 b14 b15 mt n2 my mw b1_ (fg_fl mt len ev) l r g0 (by first | omega | assumption) (by first | omega | assumption)) d_Md_mine_85 fz_Md_greatest fw_607 rfl rfl fw_609 fw_p18 ⟨Nat.le_of_ble_eq_true rfl, Nat.le_of_ble_eq_true rfl⟩ rfl (Nat.le_of_ble_eq_true rfl) ⟨Nat.zero_le _, Nat.zero_le _⟩ ⟨rfl, rfl, rfl, rfl, by decide, fun _ => rfl, rfl⟩ (fun u hu85 => ?_)
                          show fk_V E _ K (0, 0) [(b0, .inr (6, [.int (nI mt), .ref b1, .ref b2, .ref b3, .ref b4, .ref b5, .ref b6, .ref b7, .ref b8, .ref b9, .int (nI n2), .ref b10, .ref b11, .ref b12, .int (nI my), .int (nI (Bool.toNat mw)), .ref b13, .ref b14, .ref b15])), fk_ai E b1 20 len, fk_ai E b2 300 ev, fk_ai E b3 2 mc, fk_ai E b4 28 mi, fk_ai E b5 28 mu, fk_ai E b6 2 mfi, fk_ai E b7 2 mla, fk_ai E b8 2 mac, fk_ai E b9 49 b1_, fk_ai E b10 15 x2, fk_ai E b11 15 y2] 88 [(0, .ref b0), (1, .int (nI l)), (2, .int (nI r))] [.int (nI (Bool.toNat (fg_G (fg_fl mt len ev) l r)))]
                          refine fk_if_eqB (b := (fg_G (fg_fl mt len ev) l r)) d_Md_mine_88 rfl (fun h88t => ?_) (fun h88f => ?_)
                          · refine fk_iinc (j := 2) (lv' := [(0, .ref b0), (1, .int (nI l)), (2, .int (nI (r + 1)))]) (r + 1) d_Md_mine_121 rfl (nI_1 r) (Nat.le_of_ble_eq_true rfl) [1, 2, 0] rfl ?_
                            refine fk_goto d_Md_mine_124 rfl ?_
                            refine ih57 _ _ _ _ ?_ ?_ ?_ ?_
                            · first | omega | assumption | exact Nat.zero_le _
                            · first | omega | assumption | exact Nat.zero_le _
                            · rw [← Nat.add_assoc]
                              first | exact fr_P_f h8 (by rw [g3, h79t, Bool.false_and]) | exact fr_P_f h8 (by rw [g3, h88t, Bool.and_false]) | (have w := fr_P_t h8 h70f (by rw [g3, h79f, h88f, Bool.and_self]) (by omega); rw [show (128 * l + r) / 128 = l by omega, show (128 * l + r) % 128 = r by omega] at w; exact w)
                            · omega
                          · refine fk_aload_n 0 d_Md_mine_91 rfl ?_
                            refine fk_get 0 11 rfl rfl fh_Md (Nat.le_of_ble_eq_true rfl) fw_518 rfl d_Md_mine_92 ?_
                            refine fk_aload_n 0 d_Md_mine_95 rfl ?_
                            refine fk_get 0 10 rfl rfl fh_Md (Nat.le_of_ble_eq_true rfl) fw_517 rfl d_Md_mine_96 ?_
                            refine fk_iload_n 1 d_Md_mine_99 rfl ?_
                            refine fk_st_ai (i := n2) (x := l) (w' := [(b0, .inr (6, [.int (nI mt), .ref b1, .ref b2, .ref b3, .ref b4, .ref b5, .ref b6, .ref b7, .ref b8, .ref b9, .int (nI n2), .ref b10, .ref b11, .ref b12, .int (nI my), .int (nI (Bool.toNat mw)), .ref b13, .ref b14, .ref b15])), fk_ai E b1 20 len, fk_ai E b2 300 ev, fk_ai E b3 2 mc, fk_ai E b4 28 mi, fk_ai E b5 28 mu, fk_ai E b6 2 mfi, fk_ai E b7 2 mla, fk_ai E b8 2 mac, fk_ai E b9 49 b1_, fk_ai E b10 15 (va_up x2 n2 l), fk_ai E b11 15 y2]) 10 rfl (by omega) (by decide) d_Md_mine_100 rfl ?_
                            refine fk_aload_n 0 d_Md_mine_101 rfl ?_
                            refine fk_get 0 12 rfl rfl fh_Md (Nat.le_of_ble_eq_true rfl) fw_519 rfl d_Md_mine_102 ?_
                            refine fk_aload_n 0 d_Md_mine_105 rfl ?_
                            refine fk_get 0 10 rfl rfl fh_Md (Nat.le_of_ble_eq_true rfl) fw_517 rfl d_Md_mine_106 ?_
                            refine fk_iload_n 2 d_Md_mine_109 rfl ?_
                            refine fk_st_ai (i := n2) (x := r) (w' := [(b0, .inr (6, [.int (nI mt), .ref b1, .ref b2, .ref b3, .ref b4, .ref b5, .ref b6, .ref b7, .ref b8, .ref b9, .int (nI n2), .ref b10, .ref b11, .ref b12, .int (nI my), .int (nI (Bool.toNat mw)), .ref b13, .ref b14, .ref b15])), fk_ai E b1 20 len, fk_ai E b2 300 ev, fk_ai E b3 2 mc, fk_ai E b4 28 mi, fk_ai E b5 28 mu, fk_ai E b6 2 mfi, fk_ai E b7 2 mla, fk_ai E b8 2 mac, fk_ai E b9 49 b1_, fk_ai E b10 15 (va_up x2 n2 l), fk_ai E b11 15 (va_up y2 n2 r)]) 11 rfl (by omega) (by decide) d_Md_mine_110 rfl ?_
                            refine fk_aload_n 0 d_Md_mine_111 rfl ?_
                            refine fk_dup d_Md_mine_112 rfl ?_
                            refine fk_get 0 10 rfl rfl fh_Md (Nat.le_of_ble_eq_true rfl) fw_517 rfl d_Md_mine_113 ?_
                            refine fk_iconst (v := nI 1) d_Md_mine_116 (by decide +kernel) ?_
                            refine fk_iadd (a := n2) (b := 1) d_Md_mine_117 ?_
                            refine fk_put (w' := [(b0, .inr (6, [.int (nI mt), .ref b1, .ref b2, .ref b3, .ref b4, .ref b5, .ref b6, .ref b7, .ref b8, .ref b9, .int (nI (n2 + 1)), .ref b10, .ref b11, .ref b12, .int (nI my), .int (nI (Bool.toNat mw)), .ref b13, .ref b14, .ref b15])), fk_ai E b1 20 len, fk_ai E b2 300 ev, fk_ai E b3 2 mc, fk_ai E b4 28 mi, fk_ai E b5 28 mu, fk_ai E b6 2 mfi, fk_ai E b7 2 mla, fk_ai E b8 2 mac, fk_ai E b9 49 b1_, fk_ai E b10 15 (va_up x2 n2 l), fk_ai E b11 15 (va_up y2 n2 r)]) 0 10 fT_Md fT_Md_ok fT_Md_nm rfl rfl fh_Md (Nat.le_of_ble_eq_true rfl) fw_517 rfl (fT_Md_ok 10 (Nat.le_of_ble_eq_true rfl)) rfl rfl (Nat.le_of_ble_eq_true rfl) d_Md_mine_118 rfl ?_
                            refine fk_iinc (j := 2) (lv' := [(0, .ref b0), (1, .int (nI l)), (2, .int (nI (r + 1)))]) (r + 1) d_Md_mine_121 rfl (nI_1 r) (Nat.le_of_ble_eq_true rfl) [1, 2, 0] rfl ?_
                            refine fk_goto d_Md_mine_124 rfl ?_
                            refine ih57 _ _ _ _ ?_ ?_ ?_ ?_
                            · first | omega | assumption | exact Nat.zero_le _
                            · first | omega | assumption | exact Nat.zero_le _
                            · rw [← Nat.add_assoc]
                              first | exact fr_P_f h8 (by rw [g3, h79t, Bool.false_and]) | exact fr_P_f h8 (by rw [g3, h88t, Bool.and_false]) | (have w := fr_P_t h8 h70f (by rw [g3, h79f, h88f, Bool.and_self]) (by omega); rw [show (128 * l + r) / 128 = l by omega, show (128 * l + r) % 128 = r by omega] at w; exact w)
                            · omega
                refine L57 _ _ _ _ _ ?_ ?_ ?_ (Nat.lt_succ_self _)
                · first | omega | assumption | exact Nat.zero_le _
                · first | omega | assumption | exact Nat.zero_le _
                · exact fr_P_f h5 (fg_Q_0 (by omega))
        refine L39 _ _ _ _ _ ?_ ?_ ?_ (Nat.lt_succ_self _)
        · first | omega | assumption | exact Nat.zero_le _
        · first | omega | assumption | exact Nat.zero_le _
        · exact fr_P_0
      · refine fk_aload_n 0 d_Md_mine_13 rfl ?_
        refine fk_get 0 9 rfl rfl fh_Md (Nat.le_of_ble_eq_true rfl) fw_516 rfl d_Md_mine_14 ?_
        refine fk_iload_n 1 d_Md_mine_17 rfl ?_
        refine fk_aload_n 0 d_Md_mine_18 rfl ?_
        refine fk_iload_n 1 d_Md_mine_19 rfl ?_
        refine fk_bipush (v := nI 7) d_Md_mine_20 (by decide +kernel) ?_
        refine fk_idiv (a := k) (b := 7) d_Md_mine_22 (by omega) (by omega) (by omega) ?_
        refine fk_iload_n 1 d_Md_mine_23 rfl ?_
        refine fk_bipush (v := nI 7) d_Md_mine_24 (by decide +kernel) ?_
        refine fk_irem (a := k) (b := 7) d_Md_mine_26 (by omega) (by omega) (by omega) ?_
        refine fk_callV (q0 := 0) (As := [.int (nI (k / 7)), .int (nI (k % 7))]) (rest := [.int (nI k), .ref b9]) (is := [0, 1, 2]) (ir := [3, 4, 5, 6, 7, 8, 9, 10, 11]) (ip := [9, 10, 11, 0, 1, 2, 3, 4, 5, 6, 7, 8]) (wc := [(b0, .inr (6, [.int (nI mt), .ref b1, .ref b2, .ref b3, .ref b4, .ref b5, .ref b6, .ref b7, .ref b8, .ref b9, .int (nI 0), .ref b10, .ref b11, .ref b12, .int (nI my), .int (nI (Bool.toNat mw)), .ref b13, .ref b14, .ref b15])), fk_ai E b1 20 len, fk_ai E b2 300 ev]) (wr := [fk_ai E b3 2 mc, fk_ai E b4 28 mi, fk_ai E b5 28 mu, fk_ai E b6 2 mfi, fk_ai E b7 2 mla, fk_ai E b8 2 mac, fk_ai E b9 49 b1_, fk_ai E b10 15 mfx, fk_ai E b11 15 mfy]) (w2 := fun _ => [(b0, .inr (6, [.int (nI mt), .ref b1, .ref b2, .ref b3, .ref b4, .ref b5, .ref b6, .ref b7, .ref b8, .ref b9, .int (nI 0), .ref b10, .ref b11, .ref b12, .int (nI my), .int (nI (Bool.toNat mw)), .ref b13, .ref b14, .ref b15])), fk_ai E b1 20 len, fk_ai E b2 300 ev, fk_ai E b3 2 mc, fk_ai E b4 28 mi, fk_ai E b5 28 mu, fk_ai E b6 2 mfi, fk_ai E b7 2 mla, fk_ai E b8 2 mac, fk_ai E b9 49 b1_, fk_ai E b10 15 mfx, fk_ai E b11 15 mfy]) (cD_relation E b0 b1 b2 b3 b4 b5 b6 b7 b8 b9 b10 b11 b12 b13 b14 b15 mt 0 my mw len ev (k / 7) (k % 7) (by first | omega | assumption) hl he (by first | omega | assumption) (by first | omega | assumption)) d_Md_mine_27 fz_Md_relation fw_599 rfl rfl fw_588 fw_589 ⟨Nat.le_of_ble_eq_true rfl, Nat.le_of_ble_eq_true rfl⟩ rfl (Nat.le_of_ble_eq_true rfl) ⟨Nat.zero_le _, Nat.zero_le _⟩ ⟨rfl, rfl, rfl, rfl, by decide, fun _ => rfl, rfl⟩ (fun u hu27 => ?_)
        show fk_V E _ K (0, 0) [(b0, .inr (6, [.int (nI mt), .ref b1, .ref b2, .ref b3, .ref b4, .ref b5, .ref b6, .ref b7, .ref b8, .ref b9, .int (nI 0), .ref b10, .ref b11, .ref b12, .int (nI my), .int (nI (Bool.toNat mw)), .ref b13, .ref b14, .ref b15])), fk_ai E b1 20 len, fk_ai E b2 300 ev, fk_ai E b3 2 mc, fk_ai E b4 28 mi, fk_ai E b5 28 mu, fk_ai E b6 2 mfi, fk_ai E b7 2 mla, fk_ai E b8 2 mac, fk_ai E b9 49 b1_, fk_ai E b10 15 mfx, fk_ai E b11 15 mfy] 30 [(0, .ref b0), (1, .int (nI k))] [.int (nI (Bool.toNat (fg_fl mt len ev (k / 7) (k % 7)) + 2 * Bool.toNat (fg_fl mt len ev (k % 7) (k / 7)))), .int (nI k), .ref b9]
        refine fk_st_ai (i := k) (x := (Bool.toNat (fg_fl mt len ev (k / 7) (k % 7)) + 2 * Bool.toNat (fg_fl mt len ev (k % 7) (k / 7)))) (w' := [(b0, .inr (6, [.int (nI mt), .ref b1, .ref b2, .ref b3, .ref b4, .ref b5, .ref b6, .ref b7, .ref b8, .ref b9, .int (nI 0), .ref b10, .ref b11, .ref b12, .int (nI my), .int (nI (Bool.toNat mw)), .ref b13, .ref b14, .ref b15])), fk_ai E b1 20 len, fk_ai E b2 300 ev, fk_ai E b3 2 mc, fk_ai E b4 28 mi, fk_ai E b5 28 mu, fk_ai E b6 2 mfi, fk_ai E b7 2 mla, fk_ai E b8 2 mac, fk_ai E b9 49 (va_up b1_ k (Bool.toNat (fg_fl mt len ev (k / 7) (k % 7)) + 2 * Bool.toNat (fg_fl mt len ev (k % 7) (k / 7)))), fk_ai E b10 15 mfx, fk_ai E b11 15 mfy]) 9 rfl (by omega) (by decide) d_Md_mine_30 rfl ?_
        refine fk_iinc (j := 1) (lv' := [(0, .ref b0), (1, .int (nI (k + 1)))]) (k + 1) d_Md_mine_31 rfl (nI_1 k) (Nat.le_of_ble_eq_true rfl) [1, 0] rfl ?_
        refine fk_goto d_Md_mine_34 rfl ?_
        refine ih7 _ _ ?_ ?_ ?_
        · first | omega | assumption | exact Nat.zero_le _
        · intro a ha b hb hz
          rcases Nat.lt_or_ge (7 * a + b) k with w | w
          · rw [va_up_ne _ _ (by omega)]; exact h2 a ha b hb w
          · rw [show k = 7 * a + b by omega, va_up_self, show (7 * a + b) / 7 = a by omega, show (7 * a + b) % 7 = b by omega]
        · omega
  refine L7 _ _ _ ?_ ?_ (Nat.lt_succ_self _)
  · first | omega | assumption | exact Nat.zero_le _
  · exact fun a _ b _ hz => absurd hz (Nat.not_lt_zero _)
