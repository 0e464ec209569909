theorem d_X12_takeOver_45 : decode prog_14_method_38_code 45 = .ok (.iload_n 1, 1) := by decide +kernel
theorem d_X12_takeOver_46 : decode prog_14_method_38_code 46 = .ok (.iaload, 1) := by decide +kernel
theorem d_X12_takeOver_47 : decode prog_14_method_38_code 47 = .ok (.iastore, 1) := by decide +kernel
theorem d_X12_takeOver_48 : decode prog_14_method_38_code 48 = .ok (.iinc 1 1, 3) := by decide +kernel
theorem d_X12_takeOver_51 : decode prog_14_method_38_code 51 = .ok (.goto (-33), 3) := by decide +kernel
theorem d_X12_takeOver_54 : decode prog_14_method_38_code 54 = .ok (.iconst 0, 1) := by decide +kernel
theorem d_X12_takeOver_55 : decode prog_14_method_38_code 55 = .ok (.istore_n 1, 1) := by decide +kernel
theorem d_X12_takeOver_56 : decode prog_14_method_38_code 56 = .ok (.iload_n 1, 1) := by decide +kernel
theorem d_X12_takeOver_57 : decode prog_14_method_38_code 57 = .ok (.bipush 80, 2) := by decide +kernel
theorem d_X12_takeOver_59 : decode prog_14_method_38_code 59 = .ok (.if_icmp .ge 33, 3) := by decide +kernel
theorem d_X12_takeOver_62 : decode prog_14_method_38_code 62 = .ok (.aload_n 0, 1) := by decide +kernel
theorem d_X12_takeOver_63 : decode prog_14_method_38_code 63 = .ok (.getfield 24, 3) := by decide +kernel
theorem d_X12_takeOver_66 : decode prog_14_method_38_code 66 = .ok (.iload_n 1, 1) := by decide +kernel
theorem d_X12_takeOver_67 : decode prog_14_method_38_code 67 = .ok (.aload_n 0, 1) := by decide +kernel
theorem d_X12_takeOver_68 : decode prog_14_method_38_code 68 = .ok (.getfield 74, 3) := by decide +kernel
theorem d_X12_takeOver_71 : decode prog_14_method_38_code 71 = .ok (.iload_n 1, 1) := by decide +kernel
theorem d_X12_takeOver_72 : decode prog_14_method_38_code 72 = .ok (.iaload, 1) := by decide +kernel
theorem d_X12_takeOver_73 : decode prog_14_method_38_code 73 = .ok (.iastore, 1) := by decide +kernel
theorem d_X12_takeOver_74 : decode prog_14_method_38_code 74 = .ok (.aload_n 0, 1) := by decide +kernel
theorem d_X12_takeOver_75 : decode prog_14_method_38_code 75 = .ok (.getfield 27, 3) := by decide +kernel
theorem d_X12_takeOver_78 : decode prog_14_method_38_code 78 = .ok (.iload_n 1, 1) := by decide +kernel
theorem d_X12_takeOver_79 : decode prog_14_method_38_code 79 = .ok (.aload_n 0, 1) := by decide +kernel
theorem d_X12_takeOver_80 : decode prog_14_method_38_code 80 = .ok (.getfield 77, 3) := by decide +kernel
theorem d_X12_takeOver_83 : decode prog_14_method_38_code 83 = .ok (.iload_n 1, 1) := by decide +kernel
theorem d_X12_takeOver_84 : decode prog_14_method_38_code 84 = .ok (.baload, 1) := by decide +kernel
theorem d_X12_takeOver_85 : decode prog_14_method_38_code 85 = .ok (.bastore, 1) := by decide +kernel
theorem d_X12_takeOver_86 : decode prog_14_method_38_code 86 = .ok (.iinc 1 1, 3) := by decide +kernel
theorem d_X12_takeOver_89 : decode prog_14_method_38_code 89 = .ok (.goto (-33), 3) := by decide +kernel
theorem d_X12_takeOver_92 : decode prog_14_method_38_code 92 = .ok (.iconst 0, 1) := by decide +kernel
theorem d_X12_takeOver_93 : decode prog_14_method_38_code 93 = .ok (.istore_n 1, 1) := by decide +kernel
theorem d_X12_takeOver_94 : decode prog_14_method_38_code 94 = .ok (.iload_n 1, 1) := by decide +kernel
theorem d_X12_takeOver_95 : decode prog_14_method_38_code 95 = .ok (.sipush 256, 3) := by decide +kernel
theorem d_X12_takeOver_98 : decode prog_14_method_38_code 98 = .ok (.if_icmp .ge 21, 3) := by decide +kernel
theorem d_X12_takeOver_101 : decode prog_14_method_38_code 101 = .ok (.aload_n 0, 1) := by decide +kernel
theorem d_X12_takeOver_102 : decode prog_14_method_38_code 102 = .ok (.getfield 31, 3) := by decide +kernel
theorem d_X12_takeOver_105 : decode prog_14_method_38_code 105 = .ok (.iload_n 1, 1) := by decide +kernel
theorem d_X12_takeOver_106 : decode prog_14_method_38_code 106 = .ok (.aload_n 0, 1) := by decide +kernel
theorem d_X12_takeOver_107 : decode prog_14_method_38_code 107 = .ok (.getfield 80, 3) := by decide +kernel
theorem d_X12_takeOver_110 : decode prog_14_method_38_code 110 = .ok (.iload_n 1, 1) := by decide +kernel
theorem d_X12_takeOver_111 : decode prog_14_method_38_code 111 = .ok (.iaload, 1) := by decide +kernel
theorem d_X12_takeOver_112 : decode prog_14_method_38_code 112 = .ok (.iastore, 1) := by decide +kernel
theorem d_X12_takeOver_113 : decode prog_14_method_38_code 113 = .ok (.iinc 1 1, 3) := by decide +kernel
theorem d_X12_takeOver_116 : decode prog_14_method_38_code 116 = .ok (.goto (-22), 3) := by decide +kernel
theorem d_X12_takeOver_119 : decode prog_14_method_38_code 119 = .ok (.iconst 0, 1) := by decide +kernel
theorem d_X12_takeOver_120 : decode prog_14_method_38_code 120 = .ok (.istore_n 1, 1) := by decide +kernel
theorem d_X12_takeOver_121 : decode prog_14_method_38_code 121 = .ok (.iload_n 1, 1) := by decide +kernel
theorem d_X12_takeOver_122 : decode prog_14_method_38_code 122 = .ok (.bipush 60, 2) := by decide +kernel
theorem d_X12_takeOver_124 : decode prog_14_method_38_code 124 = .ok (.if_icmp .ge 69, 3) := by decide +kernel
theorem d_X12_takeOver_127 : decode prog_14_method_38_code 127 = .ok (.aload_n 0, 1) := by decide +kernel
theorem d_X12_takeOver_128 : decode prog_14_method_38_code 128 = .ok (.getfield 37, 3) := by decide +kernel
theorem d_X12_takeOver_131 : decode prog_14_method_38_code 131 = .ok (.iload_n 1, 1) := by decide +kernel
theorem d_X12_takeOver_132 : decode prog_14_method_38_code 132 = .ok (.aload_n 0, 1) := by decide +kernel
theorem d_X12_takeOver_133 : decode prog_14_method_38_code 133 = .ok (.getfield 86, 3) := by decide +kernel
theorem d_X12_takeOver_136 : decode prog_14_method_38_code 136 = .ok (.iload_n 1, 1) := by decide +kernel
theorem d_X12_takeOver_137 : decode prog_14_method_38_code 137 = .ok (.iaload, 1) := by decide +kernel
theorem d_X12_takeOver_138 : decode prog_14_method_38_code 138 = .ok (.iastore, 1) := by decide +kernel
theorem d_X12_takeOver_139 : decode prog_14_method_38_code 139 = .ok (.aload_n 0, 1) := by decide +kernel
theorem d_X12_takeOver_140 : decode prog_14_method_38_code 140 = .ok (.getfield 46, 3) := by decide +kernel
theorem d_X12_takeOver_143 : decode prog_14_method_38_code 143 = .ok (.iload_n 1, 1) := by decide +kernel
theorem d_X12_takeOver_144 : decode prog_14_method_38_code 144 = .ok (.aload_n 0, 1) := by decide +kernel
theorem d_X12_takeOver_145 : decode prog_14_method_38_code 145 = .ok (.getfield 95, 3) := by decide +kernel
theorem d_X12_takeOver_148 : decode prog_14_method_38_code 148 = .ok (.iload_n 1, 1) := by decide +kernel
theorem d_X12_takeOver_149 : decode prog_14_method_38_code 149 = .ok (.iaload, 1) := by decide +kernel
theorem d_X12_takeOver_150 : decode prog_14_method_38_code 150 = .ok (.iastore, 1) := by decide +kernel
theorem d_X12_takeOver_151 : decode prog_14_method_38_code 151 = .ok (.aload_n 0, 1) := by decide +kernel
theorem d_X12_takeOver_152 : decode prog_14_method_38_code 152 = .ok (.getfield 34, 3) := by decide +kernel
theorem d_X12_takeOver_155 : decode prog_14_method_38_code 155 = .ok (.iconst 2, 1) := by decide +kernel
theorem d_X12_takeOver_156 : decode prog_14_method_38_code 156 = .ok (.iload_n 1, 1) := by decide +kernel
theorem d_X12_takeOver_157 : decode prog_14_method_38_code 157 = .ok (.imul, 1) := by decide +kernel
theorem d_X12_takeOver_158 : decode prog_14_method_38_code 158 = .ok (.aload_n 0, 1) := by decide +kernel
theorem d_X12_takeOver_159 : decode prog_14_method_38_code 159 = .ok (.getfield 83, 3) := by decide +kernel
theorem d_X12_takeOver_162 : decode prog_14_method_38_code 162 = .ok (.iconst 2, 1) := by decide +kernel
theorem d_X12_takeOver_163 : decode prog_14_method_38_code 163 = .ok (.iload_n 1, 1) := by decide +kernel
theorem d_X12_takeOver_164 : decode prog_14_method_38_code 164 = .ok (.imul, 1) := by decide +kernel
theorem d_X12_takeOver_165 : decode prog_14_method_38_code 165 = .ok (.iaload, 1) := by decide +kernel
theorem d_X12_takeOver_166 : decode prog_14_method_38_code 166 = .ok (.iastore, 1) := by decide +kernel
theorem d_X12_takeOver_167 : decode prog_14_method_38_code 167 = .ok (.aload_n 0, 1) := by decide +kernel
theorem d_X12_takeOver_168 : decode prog_14_method_38_code 168 = .ok (.getfield 34, 3) := by decide +kernel
theorem d_X12_takeOver_171 : decode prog_14_method_38_code 171 = .ok (.iconst 2, 1) := by decide +kernel
theorem d_X12_takeOver_172 : decode prog_14_method_38_code 172 = .ok (.iload_n 1, 1) := by decide +kernel
theorem d_X12_takeOver_173 : decode prog_14_method_38_code 173 = .ok (.imul, 1) := by decide +kernel
theorem d_X12_takeOver_174 : decode prog_14_method_38_code 174 = .ok (.iconst 1, 1) := by decide +kernel
theorem d_X12_takeOver_175 : decode prog_14_method_38_code 175 = .ok (.iadd, 1) := by decide +kernel
theorem d_X12_takeOver_176 : decode prog_14_method_38_code 176 = .ok (.aload_n 0, 1) := by decide +kernel
theorem d_X12_takeOver_177 : decode prog_14_method_38_code 177 = .ok (.getfield 83, 3) := by decide +kernel
theorem d_X12_takeOver_180 : decode prog_14_method_38_code 180 = .ok (.iconst 2, 1) := by decide +kernel
theorem d_X12_takeOver_181 : decode prog_14_method_38_code 181 = .ok (.iload_n 1, 1) := by decide +kernel
theorem d_X12_takeOver_182 : decode prog_14_method_38_code 182 = .ok (.imul, 1) := by decide +kernel
theorem d_X12_takeOver_183 : decode prog_14_method_38_code 183 = .ok (.iconst 1, 1) := by decide +kernel
theorem d_X12_takeOver_184 : decode prog_14_method_38_code 184 = .ok (.iadd, 1) := by decide +kernel
theorem d_X12_takeOver_185 : decode prog_14_method_38_code 185 = .ok (.iaload, 1) := by decide +kernel
theorem d_X12_takeOver_186 : decode prog_14_method_38_code 186 = .ok (.iastore, 1) := by decide +kernel
theorem d_X12_takeOver_187 : decode prog_14_method_38_code 187 = .ok (.iinc 1 1, 3) := by decide +kernel
theorem d_X12_takeOver_190 : decode prog_14_method_38_code 190 = .ok (.goto (-69), 3) := by decide +kernel
theorem d_X12_takeOver_193 : decode prog_14_method_38_code 193 = .ok (.iconst 0, 1) := by decide +kernel
theorem d_X12_takeOver_194 : decode prog_14_method_38_code 194 = .ok (.istore_n 1, 1) := by decide +kernel
theorem d_X12_takeOver_195 : decode prog_14_method_38_code 195 = .ok (.iload_n 1, 1) := by decide +kernel
theorem d_X12_takeOver_196 : decode prog_14_method_38_code 196 = .ok (.sipush 720, 3) := by decide +kernel
theorem d_X12_takeOver_199 : decode prog_14_method_38_code 199 = .ok (.if_icmp .ge 21, 3) := by decide +kernel
theorem d_X12_takeOver_202 : decode prog_14_method_38_code 202 = .ok (.aload_n 0, 1) := by decide +kernel
theorem d_X12_takeOver_203 : decode prog_14_method_38_code 203 = .ok (.getfield 40, 3) := by decide +kernel
theorem d_X12_takeOver_206 : decode prog_14_method_38_code 206 = .ok (.iload_n 1, 1) := by decide +kernel
theorem d_X12_takeOver_207 : decode prog_14_method_38_code 207 = .ok (.aload_n 0, 1) := by decide +kernel
theorem d_X12_takeOver_208 : decode prog_14_method_38_code 208 = .ok (.getfield 89, 3) := by decide +kernel
theorem d_X12_takeOver_211 : decode prog_14_method_38_code 211 = .ok (.iload_n 1, 1) := by decide +kernel
theorem d_X12_takeOver_212 : decode prog_14_method_38_code 212 = .ok (.iaload, 1) := by decide +kernel
theorem d_X12_takeOver_213 : decode prog_14_method_38_code 213 = .ok (.iastore, 1) := by decide +kernel
theorem d_X12_takeOver_214 : decode prog_14_method_38_code 214 = .ok (.iinc 1 1, 3) := by decide +kernel
theorem d_X12_takeOver_217 : decode prog_14_method_38_code 217 = .ok (.goto (-22), 3) := by decide +kernel
theorem d_X12_takeOver_220 : decode prog_14_method_38_code 220 = .ok (.iconst 0, 1) := by decide +kernel
theorem d_X12_takeOver_221 : decode prog_14_method_38_code 221 = .ok (.istore_n 1, 1) := by decide +kernel
theorem d_X12_takeOver_222 : decode prog_14_method_38_code 222 = .ok (.iload_n 1, 1) := by decide +kernel
theorem d_X12_takeOver_223 : decode prog_14_method_38_code 223 = .ok (.sipush 4200, 3) := by decide +kernel
theorem d_X12_takeOver_226 : decode prog_14_method_38_code 226 = .ok (.if_icmp .ge 21, 3) := by decide +kernel
theorem d_X12_takeOver_229 : decode prog_14_method_38_code 229 = .ok (.aload_n 0, 1) := by decide +kernel
theorem d_X12_takeOver_230 : decode prog_14_method_38_code 230 = .ok (.getfield 43, 3) := by decide +kernel
theorem d_X12_takeOver_233 : decode prog_14_method_38_code 233 = .ok (.iload_n 1, 1) := by decide +kernel
theorem d_X12_takeOver_234 : decode prog_14_method_38_code 234 = .ok (.aload_n 0, 1) := by decide +kernel
theorem d_X12_takeOver_235 : decode prog_14_method_38_code 235 = .ok (.getfield 92, 3) := by decide +kernel
theorem d_X12_takeOver_238 : decode prog_14_method_38_code 238 = .ok (.iload_n 1, 1) := by decide +kernel
theorem d_X12_takeOver_239 : decode prog_14_method_38_code 239 = .ok (.iaload, 1) := by decide +kernel
theorem d_X12_takeOver_240 : decode prog_14_method_38_code 240 = .ok (.iastore, 1) := by decide +kernel
theorem d_X12_takeOver_241 : decode prog_14_method_38_code 241 = .ok (.iinc 1 1, 3) := by decide +kernel
theorem d_X12_takeOver_244 : decode prog_14_method_38_code 244 = .ok (.goto (-22), 3) := by decide +kernel
theorem d_X12_takeOver_247 : decode prog_14_method_38_code 247 = .ok (.aload_n 0, 1) := by decide +kernel
theorem d_X12_takeOver_248 : decode prog_14_method_38_code 248 = .ok (.invokevirtual 179, 3) := by decide +kernel
theorem d_X12_takeOver_251 : decode prog_14_method_38_code 251 = .ok (.iconst 0, 1) := by decide +kernel
theorem d_X12_takeOver_252 : decode prog_14_method_38_code 252 = .ok (.istore_n 1, 1) := by decide +kernel
theorem d_X12_takeOver_253 : decode prog_14_method_38_code 253 = .ok (.iload_n 1, 1) := by decide +kernel
theorem d_X12_takeOver_254 : decode prog_14_method_38_code 254 = .ok (.aload_n 0, 1) := by decide +kernel
theorem d_X12_takeOver_255 : decode prog_14_method_38_code 255 = .ok (.getfield 327, 3) := by decide +kernel
theorem d_X12_takeOver_258 : decode prog_14_method_38_code 258 = .ok (.if_icmp .ge 21, 3) := by decide +kernel
theorem d_X12_takeOver_261 : decode prog_14_method_38_code 261 = .ok (.aload_n 0, 1) := by decide +kernel
theorem d_X12_takeOver_262 : decode prog_14_method_38_code 262 = .ok (.getfield 49, 3) := by decide +kernel
theorem d_X12_takeOver_265 : decode prog_14_method_38_code 265 = .ok (.iload_n 1, 1) := by decide +kernel
theorem d_X12_takeOver_266 : decode prog_14_method_38_code 266 = .ok (.aload_n 0, 1) := by decide +kernel
theorem d_X12_takeOver_267 : decode prog_14_method_38_code 267 = .ok (.getfield 128, 3) := by decide +kernel
theorem d_X12_takeOver_270 : decode prog_14_method_38_code 270 = .ok (.iload_n 1, 1) := by decide +kernel
theorem d_X12_takeOver_271 : decode prog_14_method_38_code 271 = .ok (.iaload, 1) := by decide +kernel
theorem d_X12_takeOver_272 : decode prog_14_method_38_code 272 = .ok (.iastore, 1) := by decide +kernel
theorem d_X12_takeOver_273 : decode prog_14_method_38_code 273 = .ok (.iinc 1 1, 3) := by decide +kernel
theorem d_X12_takeOver_276 : decode prog_14_method_38_code 276 = .ok (.goto (-23), 3) := by decide +kernel
theorem d_X12_takeOver_279 : decode prog_14_method_38_code 279 = .ok (.iconst 0, 1) := by decide +kernel
theorem d_X12_takeOver_280 : decode prog_14_method_38_code 280 = .ok (.istore_n 1, 1) := by decide +kernel
theorem d_X12_takeOver_281 : decode prog_14_method_38_code 281 = .ok (.iload_n 1, 1) := by decide +kernel
theorem d_X12_takeOver_282 : decode prog_14_method_38_code 282 = .ok (.iconst 5, 1) := by decide +kernel
theorem d_X12_takeOver_283 : decode prog_14_method_38_code 283 = .ok (.aload_n 0, 1) := by decide +kernel
theorem d_X12_takeOver_284 : decode prog_14_method_38_code 284 = .ok (.getfield 327, 3) := by decide +kernel
theorem d_X12_takeOver_287 : decode prog_14_method_38_code 287 = .ok (.imul, 1) := by decide +kernel
theorem d_X12_takeOver_288 : decode prog_14_method_38_code 288 = .ok (.if_icmp .ge 21, 3) := by decide +kernel
theorem d_X12_takeOver_291 : decode prog_14_method_38_code 291 = .ok (.aload_n 0, 1) := by decide +kernel
theorem d_X12_takeOver_292 : decode prog_14_method_38_code 292 = .ok (.getfield 52, 3) := by decide +kernel
theorem d_X12_takeOver_295 : decode prog_14_method_38_code 295 = .ok (.iload_n 1, 1) := by decide +kernel
theorem d_X12_takeOver_296 : decode prog_14_method_38_code 296 = .ok (.aload_n 0, 1) := by decide +kernel
theorem d_X12_takeOver_297 : decode prog_14_method_38_code 297 = .ok (.getfield 131, 3) := by decide +kernel
theorem d_X12_takeOver_300 : decode prog_14_method_38_code 300 = .ok (.iload_n 1, 1) := by decide +kernel
theorem d_X12_takeOver_301 : decode prog_14_method_38_code 301 = .ok (.iaload, 1) := by decide +kernel
theorem d_X12_takeOver_302 : decode prog_14_method_38_code 302 = .ok (.iastore, 1) := by decide +kernel
theorem d_X12_takeOver_303 : decode prog_14_method_38_code 303 = .ok (.iinc 1 1, 3) := by decide +kernel
theorem d_X12_takeOver_306 : decode prog_14_method_38_code 306 = .ok (.goto (-25), 3) := by decide +kernel
theorem d_X12_takeOver_309 : decode prog_14_method_38_code 309 = .ok (.aload_n 0, 1) := by decide +kernel
theorem d_X12_takeOver_310 : decode prog_14_method_38_code 310 = .ok (.aload_n 0, 1) := by decide +kernel
theorem d_X12_takeOver_311 : decode prog_14_method_38_code 311 = .ok (.getfield 324, 3) := by decide +kernel
theorem d_X12_takeOver_314 : decode prog_14_method_38_code 314 = .ok (.putfield 182, 3) := by decide +kernel
theorem d_X12_takeOver_317 : decode prog_14_method_38_code 317 = .ok (.iconst 0, 1) := by decide +kernel
theorem d_X12_takeOver_318 : decode prog_14_method_38_code 318 = .ok (.istore_n 1, 1) := by decide +kernel
theorem d_X12_takeOver_319 : decode prog_14_method_38_code 319 = .ok (.iload_n 1, 1) := by decide +kernel
theorem d_X12_takeOver_320 : decode prog_14_method_38_code 320 = .ok (.aload_n 0, 1) := by decide +kernel
theorem d_X12_takeOver_321 : decode prog_14_method_38_code 321 = .ok (.getfield 324, 3) := by decide +kernel
theorem d_X12_takeOver_324 : decode prog_14_method_38_code 324 = .ok (.if_icmp .ge 21, 3) := by decide +kernel
theorem d_X12_takeOver_327 : decode prog_14_method_38_code 327 = .ok (.aload_n 0, 1) := by decide +kernel
theorem d_X12_takeOver_328 : decode prog_14_method_38_code 328 = .ok (.getfield 55, 3) := by decide +kernel
theorem d_X12_takeOver_331 : decode prog_14_method_38_code 331 = .ok (.iload_n 1, 1) := by decide +kernel
theorem d_X12_takeOver_332 : decode prog_14_method_38_code 332 = .ok (.aload_n 0, 1) := by decide +kernel
theorem d_X12_takeOver_333 : decode prog_14_method_38_code 333 = .ok (.getfield 134, 3) := by decide +kernel
theorem d_X12_takeOver_336 : decode prog_14_method_38_code 336 = .ok (.iload_n 1, 1) := by decide +kernel
theorem d_X12_takeOver_337 : decode prog_14_method_38_code 337 = .ok (.iaload, 1) := by decide +kernel
theorem d_X12_takeOver_338 : decode prog_14_method_38_code 338 = .ok (.iastore, 1) := by decide +kernel
theorem d_X12_takeOver_339 : decode prog_14_method_38_code 339 = .ok (.iinc 1 1, 3) := by decide +kernel
theorem d_X12_takeOver_342 : decode prog_14_method_38_code 342 = .ok (.goto (-23), 3) := by decide +kernel
theorem d_X12_takeOver_345 : decode prog_14_method_38_code 345 = .ok (.aload_n 0, 1) := by decide +kernel
theorem d_X12_takeOver_346 : decode prog_14_method_38_code 346 = .ok (.aload_n 0, 1) := by decide +kernel
theorem d_X12_takeOver_347 : decode prog_14_method_38_code 347 = .ok (.getfield 330, 3) := by decide +kernel
theorem d_X12_takeOver_350 : decode prog_14_method_38_code 350 = .ok (.putfield 185, 3) := by decide +kernel
theorem d_X12_takeOver_353 : decode prog_14_method_38_code 353 = .ok (.aload_n 0, 1) := by decide +kernel
theorem d_X12_takeOver_354 : decode prog_14_method_38_code 354 = .ok (.iconst 0, 1) := by decide +kernel
theorem d_X12_takeOver_355 : decode prog_14_method_38_code 355 = .ok (.putfield 360, 3) := by decide +kernel
theorem d_X12_takeOver_358 : decode prog_14_method_38_code 358 = .ok (.aload_n 0, 1) := by decide +kernel
theorem d_X12_takeOver_359 : decode prog_14_method_38_code 359 = .ok (.aload_n 0, 1) := by decide +kernel
theorem d_X12_takeOver_360 : decode prog_14_method_38_code 360 = .ok (.getfield 327, 3) := by decide +kernel
theorem d_X12_takeOver_363 : decode prog_14_method_38_code 363 = .ok (.putfield 363, 3) := by decide +kernel
theorem d_X12_takeOver_366 : decode prog_14_method_38_code 366 = .ok (.aload_n 0, 1) := by decide +kernel
theorem d_X12_takeOver_367 : decode prog_14_method_38_code 367 = .ok (.iconst 0, 1) := by decide +kernel
theorem d_X12_takeOver_368 : decode prog_14_method_38_code 368 = .ok (.putfield 366, 3) := by decide +kernel
theorem d_X12_takeOver_371 : decode prog_14_method_38_code 371 = .ok (.aload_n 0, 1) := by decide +kernel
theorem d_X12_takeOver_372 : decode prog_14_method_38_code 372 = .ok (.iconst 0, 1) := by decide +kernel
theorem d_X12_takeOver_373 : decode prog_14_method_38_code 373 = .ok (.putfield 369, 3) := by decide +kernel
theorem d_X12_takeOver_376 : decode prog_14_method_38_code 376 = .ok (.iconst 0, 1) := by decide +kernel
theorem d_X12_takeOver_377 : decode prog_14_method_38_code 377 = .ok (.istore_n 1, 1) := by decide +kernel
theorem d_X12_takeOver_378 : decode prog_14_method_38_code 378 = .ok (.iload_n 1, 1) := by decide +kernel
theorem d_X12_takeOver_379 : decode prog_14_method_38_code 379 = .ok (.iconst 4, 1) := by decide +kernel
theorem d_X12_takeOver_380 : decode prog_14_method_38_code 380 = .ok (.if_icmp .ge 16, 3) := by decide +kernel
theorem d_X12_takeOver_383 : decode prog_14_method_38_code 383 = .ok (.aload_n 0, 1) := by decide +kernel
theorem d_X12_takeOver_384 : decode prog_14_method_38_code 384 = .ok (.getfield 158, 3) := by decide +kernel
theorem d_X12_takeOver_387 : decode prog_14_method_38_code 387 = .ok (.iload_n 1, 1) := by decide +kernel
theorem d_X12_takeOver_388 : decode prog_14_method_38_code 388 = .ok (.iconst (-1), 1) := by decide +kernel
theorem d_X12_takeOver_389 : decode prog_14_method_38_code 389 = .ok (.iastore, 1) := by decide +kernel
theorem d_X12_takeOver_390 : decode prog_14_method_38_code 390 = .ok (.iinc 1 1, 3) := by decide +kernel
theorem d_X12_takeOver_393 : decode prog_14_method_38_code 393 = .ok (.goto (-15), 3) := by decide +kernel
theorem d_X12_takeOver_396 : decode prog_14_method_38_code 396 = .ok (.return_, 1) := by decide +kernel
theorem d_X12_read_0 : decode prog_14_method_37_code 0 = .ok (.aload_n 0, 1) := by decide +kernel
theorem d_X12_read_1 : decode prog_14_method_37_code 1 = .ok (.iconst 0, 1) := by decide +kernel
theorem d_X12_read_2 : decode prog_14_method_37_code 2 = .ok (.putfield 248, 3) := by decide +kernel
theorem d_X12_read_5 : decode prog_14_method_37_code 5 = .ok (.aload_n 0, 1) := by decide +kernel
theorem d_X12_read_6 : decode prog_14_method_37_code 6 = .ok (.iconst 0, 1) := by decide +kernel
theorem d_X12_read_7 : decode prog_14_method_37_code 7 = .ok (.putfield 296, 3) := by decide +kernel
theorem d_X12_read_10 : decode prog_14_method_37_code 10 = .ok (.aload_n 0, 1) := by decide +kernel
theorem d_X12_read_11 : decode prog_14_method_37_code 11 = .ok (.iconst 0, 1) := by decide +kernel
theorem d_X12_read_12 : decode prog_14_method_37_code 12 = .ok (.putfield 320, 3) := by decide +kernel
theorem d_X12_read_15 : decode prog_14_method_37_code 15 = .ok (.aload_n 0, 1) := by decide +kernel
theorem d_X12_read_16 : decode prog_14_method_37_code 16 = .ok (.iconst 0, 1) := by decide +kernel
theorem d_X12_read_17 : decode prog_14_method_37_code 17 = .ok (.putfield 327, 3) := by decide +kernel
theorem d_X12_read_20 : decode prog_14_method_37_code 20 = .ok (.aload_n 0, 1) := by decide +kernel
theorem d_X12_read_21 : decode prog_14_method_37_code 21 = .ok (.iconst 0, 1) := by decide +kernel
theorem d_X12_read_22 : decode prog_14_method_37_code 22 = .ok (.putfield 324, 3) := by decide +kernel
theorem d_X12_read_25 : decode prog_14_method_37_code 25 = .ok (.aload_n 0, 1) := by decide +kernel
theorem d_X12_read_26 : decode prog_14_method_37_code 26 = .ok (.iconst 0, 1) := by decide +kernel
theorem d_X12_read_27 : decode prog_14_method_37_code 27 = .ok (.putfield 330, 3) := by decide +kernel
theorem d_X12_read_30 : decode prog_14_method_37_code 30 = .ok (.iconst 0, 1) := by decide +kernel
theorem d_X12_read_31 : decode prog_14_method_37_code 31 = .ok (.istore_n 1, 1) := by decide +kernel
theorem d_X12_read_32 : decode prog_14_method_37_code 32 = .ok (.iload_n 1, 1) := by decide +kernel
theorem d_X12_read_33 : decode prog_14_method_37_code 33 = .ok (.sipush 256, 3) := by decide +kernel
theorem d_X12_read_36 : decode prog_14_method_37_code 36 = .ok (.if_icmp .ge 16, 3) := by decide +kernel
theorem d_X12_read_39 : decode prog_14_method_37_code 39 = .ok (.aload_n 0, 1) := by decide +kernel
theorem d_X12_read_40 : decode prog_14_method_37_code 40 = .ok (.getfield 80, 3) := by decide +kernel
theorem d_X12_read_43 : decode prog_14_method_37_code 43 = .ok (.iload_n 1, 1) := by decide +kernel
theorem d_X12_read_44 : decode prog_14_method_37_code 44 = .ok (.iconst (-1), 1) := by decide +kernel
theorem d_X12_read_45 : decode prog_14_method_37_code 45 = .ok (.iastore, 1) := by decide +kernel
theorem d_X12_read_46 : decode prog_14_method_37_code 46 = .ok (.iinc 1 1, 3) := by decide +kernel
theorem d_X12_read_49 : decode prog_14_method_37_code 49 = .ok (.goto (-17), 3) := by decide +kernel
theorem d_X12_read_52 : decode prog_14_method_37_code 52 = .ok (.aload_n 0, 1) := by decide +kernel
theorem d_X12_read_53 : decode prog_14_method_37_code 53 = .ok (.iconst 0, 1) := by decide +kernel
theorem d_X12_read_54 : decode prog_14_method_37_code 54 = .ok (.putfield 195, 3) := by decide +kernel
theorem d_X12_read_57 : decode prog_14_method_37_code 57 = .ok (.aload_n 0, 1) := by decide +kernel
theorem d_X12_read_58 : decode prog_14_method_37_code 58 = .ok (.iconst (-1), 1) := by decide +kernel
theorem d_X12_read_59 : decode prog_14_method_37_code 59 = .ok (.putfield 13, 3) := by decide +kernel
theorem d_X12_read_62 : decode prog_14_method_37_code 62 = .ok (.aload_n 0, 1) := by decide +kernel
theorem d_X12_read_63 : decode prog_14_method_37_code 63 = .ok (.invokevirtual 348, 3) := by decide +kernel
theorem d_X12_read_66 : decode prog_14_method_37_code 66 = .ok (.istore_n 1, 1) := by decide +kernel
theorem d_X12_read_67 : decode prog_14_method_37_code 67 = .ok (.aload_n 0, 1) := by decide +kernel
theorem d_X12_read_68 : decode prog_14_method_37_code 68 = .ok (.iconst 0, 1) := by decide +kernel
theorem d_X12_read_69 : decode prog_14_method_37_code 69 = .ok (.putfield 188, 3) := by decide +kernel
theorem d_X12_read_72 : decode prog_14_method_37_code 72 = .ok (.iload_n 1, 1) := by decide +kernel
theorem d_X12_read_73 : decode prog_14_method_37_code 73 = .ok (.ifCond .ne 11, 3) := by decide +kernel
theorem d_X12_read_76 : decode prog_14_method_37_code 76 = .ok (.bipush (-10), 2) := by decide +kernel
theorem d_X12_read_78 : decode prog_14_method_37_code 78 = .ok (.aload_n 0, 1) := by decide +kernel
theorem d_X12_read_79 : decode prog_14_method_37_code 79 = .ok (.getfield 231, 3) := by decide +kernel
theorem d_X12_read_82 : decode prog_14_method_37_code 82 = .ok (.isub, 1) := by decide +kernel
theorem d_X12_read_83 : decode prog_14_method_37_code 83 = .ok (.ireturn, 1) := by decide +kernel
theorem d_X12_read_84 : decode prog_14_method_37_code 84 = .ok (.aload_n 0, 1) := by decide +kernel
theorem d_X12_read_85 : decode prog_14_method_37_code 85 = .ok (.invokevirtual 351, 3) := by decide +kernel
theorem d_X12_read_88 : decode prog_14_method_37_code 88 = .ok (.aload_n 0, 1) := by decide +kernel
theorem d_X12_read_89 : decode prog_14_method_37_code 89 = .ok (.getfield 327, 3) := by decide +kernel
theorem d_X12_read_92 : decode prog_14_method_37_code 92 = .ok (.ireturn, 1) := by decide +kernel
theorem d_X12_rule_0 : decode prog_14_method_50_code 0 = .ok (.iload_n 1, 1) := by decide +kernel
theorem d_X12_rule_1 : decode prog_14_method_50_code 1 = .ok (.i2l, 1) := by decide +kernel
theorem d_X12_rule_2 : decode prog_14_method_50_code 2 = .ok (.lconst 0, 1) := by decide +kernel
theorem d_X12_rule_3 : decode prog_14_method_50_code 3 = .ok (.aload_n 0, 1) := by decide +kernel
theorem d_X12_rule_4 : decode prog_14_method_50_code 4 = .ok (.getfield 354, 3) := by decide +kernel
theorem d_X12_rule_7 : decode prog_14_method_50_code 7 = .ok (.iconst 1, 1) := by decide +kernel
theorem d_X12_rule_8 : decode prog_14_method_50_code 8 = .ok (.isub, 1) := by decide +kernel
theorem d_X12_rule_9 : decode prog_14_method_50_code 9 = .ok (.i2l, 1) := by decide +kernel
theorem d_X12_rule_10 : decode prog_14_method_50_code 10 = .ok (.invokestatic 191, 3) := by decide +kernel
theorem d_X12_rule_13 : decode prog_14_method_50_code 13 = .ok (.ifCond .eq 19, 3) := by decide +kernel
theorem d_X12_rule_16 : decode prog_14_method_50_code 16 = .ok (.iload_n 2, 1) := by decide +kernel
theorem d_X12_rule_17 : decode prog_14_method_50_code 17 = .ok (.i2l, 1) := by decide +kernel
theorem d_X12_rule_18 : decode prog_14_method_50_code 18 = .ok (.lconst 0, 1) := by decide +kernel
theorem d_X12_rule_19 : decode prog_14_method_50_code 19 = .ok (.aload_n 0, 1) := by decide +kernel
theorem d_X12_rule_20 : decode prog_14_method_50_code 20 = .ok (.getfield 354, 3) := by decide +kernel
theorem d_X12_rule_23 : decode prog_14_method_50_code 23 = .ok (.iconst 1, 1) := by decide +kernel
theorem d_X12_rule_24 : decode prog_14_method_50_code 24 = .ok (.isub, 1) := by decide +kernel
theorem d_X12_rule_25 : decode prog_14_method_50_code 25 = .ok (.i2l, 1) := by decide +kernel
theorem d_X12_rule_26 : decode prog_14_method_50_code 26 = .ok (.invokestatic 191, 3) := by decide +kernel
theorem d_X12_rule_29 : decode prog_14_method_50_code 29 = .ok (.ifCond .ne 7, 3) := by decide +kernel
theorem d_X12_rule_32 : decode prog_14_method_50_code 32 = .ok (.sipush (-1001), 3) := by decide +kernel
theorem d_X12_rule_35 : decode prog_14_method_50_code 35 = .ok (.ireturn, 1) := by decide +kernel
theorem d_X12_rule_36 : decode prog_14_method_50_code 36 = .ok (.aload_n 0, 1) := by decide +kernel
theorem d_X12_rule_37 : decode prog_14_method_50_code 37 = .ok (.getfield 31, 3) := by decide +kernel
theorem d_X12_rule_40 : decode prog_14_method_50_code 40 = .ok (.bipush 16, 2) := by decide +kernel
theorem d_X12_rule_42 : decode prog_14_method_50_code 42 = .ok (.iload_n 1, 1) := by decide +kernel
theorem d_X12_rule_43 : decode prog_14_method_50_code 43 = .ok (.imul, 1) := by decide +kernel
theorem d_X12_rule_44 : decode prog_14_method_50_code 44 = .ok (.iload_n 2, 1) := by decide +kernel
theorem d_X12_rule_45 : decode prog_14_method_50_code 45 = .ok (.iadd, 1) := by decide +kernel
theorem d_X12_rule_46 : decode prog_14_method_50_code 46 = .ok (.iaload, 1) := by decide +kernel
theorem d_X12_rule_47 : decode prog_14_method_50_code 47 = .ok (.istore_n 3, 1) := by decide +kernel
theorem d_X12_rule_48 : decode prog_14_method_50_code 48 = .ok (.iload_n 3, 1) := by decide +kernel
theorem d_X12_rule_49 : decode prog_14_method_50_code 49 = .ok (.ifCond .ge 7, 3) := by decide +kernel
theorem d_X12_rule_52 : decode prog_14_method_50_code 52 = .ok (.iconst (-1), 1) := by decide +kernel
theorem d_X12_rule_53 : decode prog_14_method_50_code 53 = .ok (.goto 9, 3) := by decide +kernel
theorem d_X12_rule_56 : decode prog_14_method_50_code 56 = .ok (.aload_n 0, 1) := by decide +kernel
theorem d_X12_rule_57 : decode prog_14_method_50_code 57 = .ok (.getfield 37, 3) := by decide +kernel
theorem d_X12_rule_60 : decode prog_14_method_50_code 60 = .ok (.iload_n 3, 1) := by decide +kernel
theorem d_X12_rule_61 : decode prog_14_method_50_code 61 = .ok (.iaload, 1) := by decide +kernel
theorem d_X12_rule_62 : decode prog_14_method_50_code 62 = .ok (.ireturn, 1) := by decide +kernel
theorem d_X12_runRounds_0 : decode prog_14_method_64_code 0 = .ok (.iconst 0, 1) := by decide +kernel
theorem d_X12_runRounds_1 : decode prog_14_method_64_code 1 = .ok (.istore_n 2, 1) := by decide +kernel
theorem d_X12_runRounds_2 : decode prog_14_method_64_code 2 = .ok (.iconst 1, 1) := by decide +kernel
theorem d_X12_runRounds_3 : decode prog_14_method_64_code 3 = .ok (.istore_n 3, 1) := by decide +kernel
theorem d_X12_runRounds_4 : decode prog_14_method_64_code 4 = .ok (.iload_n 3, 1) := by decide +kernel
theorem d_X12_runRounds_5 : decode prog_14_method_64_code 5 = .ok (.ifCond .eq 155, 3) := by decide +kernel
theorem d_X12_runRounds_8 : decode prog_14_method_64_code 8 = .ok (.iload_n 2, 1) := by decide +kernel
theorem d_X12_runRounds_9 : decode prog_14_method_64_code 9 = .ok (.iload_n 1, 1) := by decide +kernel
theorem d_X12_runRounds_10 : decode prog_14_method_64_code 10 = .ok (.if_icmp .ge 150, 3) := by decide +kernel
theorem d_X12_runRounds_13 : decode prog_14_method_64_code 13 = .ok (.iconst 0, 1) := by decide +kernel
theorem d_X12_runRounds_14 : decode prog_14_method_64_code 14 = .ok (.istore 4, 2) := by decide +kernel
theorem d_X12_runRounds_16 : decode prog_14_method_64_code 16 = .ok (.iconst 0, 1) := by decide +kernel
theorem d_X12_runRounds_17 : decode prog_14_method_64_code 17 = .ok (.istore 5, 2) := by decide +kernel
theorem d_X12_runRounds_19 : decode prog_14_method_64_code 19 = .ok (.iload 5, 2) := by decide +kernel
theorem d_X12_runRounds_21 : decode prog_14_method_64_code 21 = .ok (.sipush 400, 3) := by decide +kernel
theorem d_X12_runRounds_24 : decode prog_14_method_64_code 24 = .ok (.if_icmp .ge 31, 3) := by decide +kernel
theorem d_X12_runRounds_27 : decode prog_14_method_64_code 27 = .ok (.aload_n 0, 1) := by decide +kernel
theorem d_X12_runRounds_28 : decode prog_14_method_64_code 28 = .ok (.iload 5, 2) := by decide +kernel
theorem d_X12_runRounds_30 : decode prog_14_method_64_code 30 = .ok (.iconst 1, 1) := by decide +kernel
theorem d_X12_runRounds_31 : decode prog_14_method_64_code 31 = .ok (.invokevirtual 381, 3) := by decide +kernel
theorem d_X12_runRounds_34 : decode prog_14_method_64_code 34 = .ok (.ifCond .eq 15, 3) := by decide +kernel
theorem d_X12_runRounds_37 : decode prog_14_method_64_code 37 = .ok (.aload_n 0, 1) := by decide +kernel
theorem d_X12_runRounds_38 : decode prog_14_method_64_code 38 = .ok (.getfield 146, 3) := by decide +kernel
theorem d_X12_runRounds_41 : decode prog_14_method_64_code 41 = .ok (.iload 4, 2) := by decide +kernel
theorem d_X12_runRounds_43 : decode prog_14_method_64_code 43 = .ok (.iload 5, 2) := by decide +kernel
theorem d_X12_runRounds_45 : decode prog_14_method_64_code 45 = .ok (.iastore, 1) := by decide +kernel
theorem d_X12_runRounds_46 : decode prog_14_method_64_code 46 = .ok (.iinc 4 1, 3) := by decide +kernel
theorem d_X12_runRounds_49 : decode prog_14_method_64_code 49 = .ok (.iinc 5 1, 3) := by decide +kernel
theorem d_X12_runRounds_52 : decode prog_14_method_64_code 52 = .ok (.goto (-33), 3) := by decide +kernel
theorem d_X12_runRounds_55 : decode prog_14_method_64_code 55 = .ok (.iload 4, 2) := by decide +kernel
theorem d_X12_runRounds_57 : decode prog_14_method_64_code 57 = .ok (.ifCond .le 7, 3) := by decide +kernel
theorem d_X12_runRounds_60 : decode prog_14_method_64_code 60 = .ok (.iconst 1, 1) := by decide +kernel
theorem d_X12_runRounds_61 : decode prog_14_method_64_code 61 = .ok (.goto 4, 3) := by decide +kernel
theorem d_X12_runRounds_64 : decode prog_14_method_64_code 64 = .ok (.iconst 0, 1) := by decide +kernel
theorem d_X12_runRounds_65 : decode prog_14_method_64_code 65 = .ok (.istore_n 3, 1) := by decide +kernel
theorem d_X12_runRounds_66 : decode prog_14_method_64_code 66 = .ok (.aload_n 0, 1) := by decide +kernel
theorem d_X12_runRounds_67 : decode prog_14_method_64_code 67 = .ok (.dup, 1) := by decide +kernel
theorem d_X12_runRounds_68 : decode prog_14_method_64_code 68 = .ok (.getfield 366, 3) := by decide +kernel
theorem d_X12_runRounds_71 : decode prog_14_method_64_code 71 = .ok (.iload_n 3, 1) := by decide +kernel
theorem d_X12_runRounds_72 : decode prog_14_method_64_code 72 = .ok (.ifCond .eq 7, 3) := by decide +kernel
theorem d_X12_runRounds_75 : decode prog_14_method_64_code 75 = .ok (.iconst 1, 1) := by decide +kernel
theorem d_X12_runRounds_76 : decode prog_14_method_64_code 76 = .ok (.goto 4, 3) := by decide +kernel
theorem d_X12_runRounds_79 : decode prog_14_method_64_code 79 = .ok (.iconst 0, 1) := by decide +kernel
theorem d_X12_runRounds_80 : decode prog_14_method_64_code 80 = .ok (.iadd, 1) := by decide +kernel
theorem d_X12_runRounds_81 : decode prog_14_method_64_code 81 = .ok (.putfield 366, 3) := by decide +kernel
theorem d_X12_runRounds_84 : decode prog_14_method_64_code 84 = .ok (.iconst 0, 1) := by decide +kernel
theorem d_X12_runRounds_85 : decode prog_14_method_64_code 85 = .ok (.istore 5, 2) := by decide +kernel
theorem d_X12_runRounds_87 : decode prog_14_method_64_code 87 = .ok (.iload 5, 2) := by decide +kernel
theorem d_X12_runRounds_89 : decode prog_14_method_64_code 89 = .ok (.iload 4, 2) := by decide +kernel
theorem d_X12_runRounds_91 : decode prog_14_method_64_code 91 = .ok (.if_icmp .ge 66, 3) := by decide +kernel
theorem d_X12_runRounds_94 : decode prog_14_method_64_code 94 = .ok (.iload_n 3, 1) := by decide +kernel
theorem d_X12_runRounds_95 : decode prog_14_method_64_code 95 = .ok (.ifCond .eq 62, 3) := by decide +kernel
theorem d_X12_runRounds_98 : decode prog_14_method_64_code 98 = .ok (.iload_n 2, 1) := by decide +kernel
theorem d_X12_runRounds_99 : decode prog_14_method_64_code 99 = .ok (.iload_n 1, 1) := by decide +kernel
theorem d_X12_runRounds_100 : decode prog_14_method_64_code 100 = .ok (.if_icmp .ge 57, 3) := by decide +kernel
theorem d_X12_runRounds_103 : decode prog_14_method_64_code 103 = .ok (.aload_n 0, 1) := by decide +kernel
theorem d_X12_runRounds_104 : decode prog_14_method_64_code 104 = .ok (.aload_n 0, 1) := by decide +kernel
theorem d_X12_runRounds_105 : decode prog_14_method_64_code 105 = .ok (.getfield 146, 3) := by decide +kernel
theorem d_X12_runRounds_108 : decode prog_14_method_64_code 108 = .ok (.iload 5, 2) := by decide +kernel
theorem d_X12_runRounds_110 : decode prog_14_method_64_code 110 = .ok (.iaload, 1) := by decide +kernel
theorem d_X12_runRounds_111 : decode prog_14_method_64_code 111 = .ok (.aload_n 0, 1) := by decide +kernel
theorem d_X12_runRounds_112 : decode prog_14_method_64_code 112 = .ok (.aload_n 0, 1) := by decide +kernel
theorem d_X12_runRounds_113 : decode prog_14_method_64_code 113 = .ok (.getfield 146, 3) := by decide +kernel
theorem d_X12_runRounds_116 : decode prog_14_method_64_code 116 = .ok (.iload 5, 2) := by decide +kernel
theorem d_X12_runRounds_118 : decode prog_14_method_64_code 118 = .ok (.iaload, 1) := by decide +kernel
theorem d_X12_runRounds_119 : decode prog_14_method_64_code 119 = .ok (.invokevirtual 374, 3) := by decide +kernel
theorem d_X12_runRounds_122 : decode prog_14_method_64_code 122 = .ok (.invokevirtual 427, 3) := by decide +kernel
theorem d_X12_runRounds_125 : decode prog_14_method_64_code 125 = .ok (.istore_n 3, 1) := by decide +kernel
theorem d_X12_runRounds_126 : decode prog_14_method_64_code 126 = .ok (.aload_n 0, 1) := by decide +kernel
theorem d_X12_runRounds_127 : decode prog_14_method_64_code 127 = .ok (.iload_n 3, 1) := by decide +kernel
theorem d_X12_runRounds_128 : decode prog_14_method_64_code 128 = .ok (.ifCond .eq 7, 3) := by decide +kernel
theorem d_X12_runRounds_131 : decode prog_14_method_64_code 131 = .ok (.iconst 0, 1) := by decide +kernel
theorem d_X12_runRounds_132 : decode prog_14_method_64_code 132 = .ok (.goto 4, 3) := by decide +kernel
theorem d_X12_runRounds_135 : decode prog_14_method_64_code 135 = .ok (.iconst 1, 1) := by decide +kernel
theorem d_X12_runRounds_136 : decode prog_14_method_64_code 136 = .ok (.putfield 398, 3) := by decide +kernel
theorem d_X12_runRounds_139 : decode prog_14_method_64_code 139 = .ok (.iload_n 2, 1) := by decide +kernel
theorem d_X12_runRounds_140 : decode prog_14_method_64_code 140 = .ok (.iload_n 3, 1) := by decide +kernel
theorem d_X12_runRounds_141 : decode prog_14_method_64_code 141 = .ok (.ifCond .eq 7, 3) := by decide +kernel
theorem d_X12_runRounds_144 : decode prog_14_method_64_code 144 = .ok (.iconst 1, 1) := by decide +kernel
theorem d_X12_runRounds_145 : decode prog_14_method_64_code 145 = .ok (.goto 4, 3) := by decide +kernel
theorem d_X12_runRounds_148 : decode prog_14_method_64_code 148 = .ok (.iconst 0, 1) := by decide +kernel
theorem d_X12_runRounds_149 : decode prog_14_method_64_code 149 = .ok (.iadd, 1) := by decide +kernel
theorem d_X12_runRounds_150 : decode prog_14_method_64_code 150 = .ok (.istore_n 2, 1) := by decide +kernel
theorem d_X12_runRounds_151 : decode prog_14_method_64_code 151 = .ok (.iinc 5 1, 3) := by decide +kernel
theorem d_X12_runRounds_154 : decode prog_14_method_64_code 154 = .ok (.goto (-67), 3) := by decide +kernel
theorem d_X12_runRounds_157 : decode prog_14_method_64_code 157 = .ok (.goto (-153), 3) := by decide +kernel
theorem d_X12_runRounds_160 : decode prog_14_method_64_code 160 = .ok (.iload_n 2, 1) := by decide +kernel
theorem d_X12_runRounds_161 : decode prog_14_method_64_code 161 = .ok (.ireturn, 1) := by decide +kernel
theorem d_X12_run_0 : decode prog_14_method_65_code 0 = .ok (.iload_n 1, 1) := by decide +kernel
theorem d_X12_run_1 : decode prog_14_method_65_code 1 = .ok (.i2l, 1) := by decide +kernel
theorem d_X12_run_2 : decode prog_14_method_65_code 2 = .ok (.lconst 0, 1) := by decide +kernel
theorem d_X12_run_3 : decode prog_14_method_65_code 3 = .ok (.ldc2_w 437, 3) := by decide +kernel
theorem d_X12_run_6 : decode prog_14_method_65_code 6 = .ok (.invokestatic 191, 3) := by decide +kernel
theorem d_X12_run_9 : decode prog_14_method_65_code 9 = .ok (.ifCond .eq 15, 3) := by decide +kernel
theorem d_X12_run_12 : decode prog_14_method_65_code 12 = .ok (.iload_n 2, 1) := by decide +kernel
theorem d_X12_run_13 : decode prog_14_method_65_code 13 = .ok (.i2l, 1) := by decide +kernel
theorem d_X12_run_14 : decode prog_14_method_65_code 14 = .ok (.lconst 0, 1) := by decide +kernel
theorem d_X12_run_15 : decode prog_14_method_65_code 15 = .ok (.ldc2_w 439, 3) := by decide +kernel
theorem d_X12_run_18 : decode prog_14_method_65_code 18 = .ok (.invokestatic 191, 3) := by decide +kernel
theorem d_X12_run_21 : decode prog_14_method_65_code 21 = .ok (.ifCond .ne 7, 3) := by decide +kernel
theorem d_X12_run_24 : decode prog_14_method_65_code 24 = .ok (.sipush (-1002), 3) := by decide +kernel
theorem d_X12_run_27 : decode prog_14_method_65_code 27 = .ok (.ireturn, 1) := by decide +kernel
theorem d_X12_run_28 : decode prog_14_method_65_code 28 = .ok (.aload_n 0, 1) := by decide +kernel
theorem d_X12_run_29 : decode prog_14_method_65_code 29 = .ok (.iconst 0, 1) := by decide +kernel
theorem d_X12_run_30 : decode prog_14_method_65_code 30 = .ok (.putfield 398, 3) := by decide +kernel
theorem d_X12_run_33 : decode prog_14_method_65_code 33 = .ok (.iload_n 1, 1) := by decide +kernel
theorem d_X12_run_34 : decode prog_14_method_65_code 34 = .ok (.iconst 2, 1) := by decide +kernel
theorem d_X12_run_35 : decode prog_14_method_65_code 35 = .ok (.if_icmp .ne 9, 3) := by decide +kernel
theorem d_X12_run_38 : decode prog_14_method_65_code 38 = .ok (.aload_n 0, 1) := by decide +kernel
theorem d_X12_run_39 : decode prog_14_method_65_code 39 = .ok (.iload_n 2, 1) := by decide +kernel
theorem d_X12_run_40 : decode prog_14_method_65_code 40 = .ok (.invokevirtual 441, 3) := by decide +kernel
theorem d_X12_run_43 : decode prog_14_method_65_code 43 = .ok (.ireturn, 1) := by decide +kernel
theorem d_X12_run_44 : decode prog_14_method_65_code 44 = .ok (.iconst 0, 1) := by decide +kernel
theorem d_X12_run_45 : decode prog_14_method_65_code 45 = .ok (.istore_n 3, 1) := by decide +kernel
theorem d_X12_run_46 : decode prog_14_method_65_code 46 = .ok (.iconst 1, 1) := by decide +kernel
theorem d_X12_run_47 : decode prog_14_method_65_code 47 = .ok (.istore 4, 2) := by decide +kernel
theorem d_X12_run_49 : decode prog_14_method_65_code 49 = .ok (.iload 4, 2) := by decide +kernel
theorem d_X12_run_51 : decode prog_14_method_65_code 51 = .ok (.ifCond .eq 77, 3) := by decide +kernel
theorem d_X12_run_54 : decode prog_14_method_65_code 54 = .ok (.iload_n 3, 1) := by decide +kernel
theorem d_X12_run_55 : decode prog_14_method_65_code 55 = .ok (.iload_n 2, 1) := by decide +kernel
theorem d_X12_run_56 : decode prog_14_method_65_code 56 = .ok (.if_icmp .ge 72, 3) := by decide +kernel
theorem d_X12_run_59 : decode prog_14_method_65_code 59 = .ok (.aload_n 0, 1) := by decide +kernel
theorem d_X12_run_60 : decode prog_14_method_65_code 60 = .ok (.iload_n 1, 1) := by decide +kernel
theorem d_X12_run_61 : decode prog_14_method_65_code 61 = .ok (.invokevirtual 444, 3) := by decide +kernel
theorem d_X12_run_64 : decode prog_14_method_65_code 64 = .ok (.istore 5, 2) := by decide +kernel
theorem d_X12_run_66 : decode prog_14_method_65_code 66 = .ok (.iload 5, 2) := by decide +kernel
theorem d_X12_run_68 : decode prog_14_method_65_code 68 = .ok (.ifCond .lt 22, 3) := by decide +kernel
theorem d_X12_run_71 : decode prog_14_method_65_code 71 = .ok (.aload_n 0, 1) := by decide +kernel
theorem d_X12_run_72 : decode prog_14_method_65_code 72 = .ok (.iload 5, 2) := by decide +kernel
theorem d_X12_run_74 : decode prog_14_method_65_code 74 = .ok (.aload_n 0, 1) := by decide +kernel
theorem d_X12_run_75 : decode prog_14_method_65_code 75 = .ok (.iload 5, 2) := by decide +kernel
theorem d_X12_run_77 : decode prog_14_method_65_code 77 = .ok (.invokevirtual 374, 3) := by decide +kernel
theorem d_X12_run_80 : decode prog_14_method_65_code 80 = .ok (.invokevirtual 427, 3) := by decide +kernel
theorem d_X12_run_83 : decode prog_14_method_65_code 83 = .ok (.ifCond .eq 7, 3) := by decide +kernel
theorem d_X12_run_86 : decode prog_14_method_65_code 86 = .ok (.iconst 1, 1) := by decide +kernel
theorem d_X12_run_87 : decode prog_14_method_65_code 87 = .ok (.goto 4, 3) := by decide +kernel
theorem d_X12_run_90 : decode prog_14_method_65_code 90 = .ok (.iconst 0, 1) := by decide +kernel
theorem d_X12_run_91 : decode prog_14_method_65_code 91 = .ok (.istore 4, 2) := by decide +kernel
theorem d_X12_run_93 : decode prog_14_method_65_code 93 = .ok (.aload_n 0, 1) := by decide +kernel
theorem d_X12_run_94 : decode prog_14_method_65_code 94 = .ok (.iload 5, 2) := by decide +kernel
theorem d_X12_run_96 : decode prog_14_method_65_code 96 = .ok (.ifCond .lt 12, 3) := by decide +kernel
theorem d_X12_run_99 : decode prog_14_method_65_code 99 = .ok (.iload 4, 2) := by decide +kernel
theorem d_X12_run_101 : decode prog_14_method_65_code 101 = .ok (.ifCond .ne 7, 3) := by decide +kernel
theorem d_X12_run_104 : decode prog_14_method_65_code 104 = .ok (.iconst 1, 1) := by decide +kernel
theorem d_X12_run_105 : decode prog_14_method_65_code 105 = .ok (.goto 4, 3) := by decide +kernel
theorem d_X12_run_108 : decode prog_14_method_65_code 108 = .ok (.iconst 0, 1) := by decide +kernel
theorem d_X12_run_109 : decode prog_14_method_65_code 109 = .ok (.putfield 398, 3) := by decide +kernel
theorem d_X12_run_112 : decode prog_14_method_65_code 112 = .ok (.iload_n 3, 1) := by decide +kernel
theorem d_X12_run_113 : decode prog_14_method_65_code 113 = .ok (.iload 4, 2) := by decide +kernel
theorem d_X12_run_115 : decode prog_14_method_65_code 115 = .ok (.ifCond .eq 7, 3) := by decide +kernel
theorem d_X12_run_118 : decode prog_14_method_65_code 118 = .ok (.iconst 1, 1) := by decide +kernel
theorem d_X12_run_119 : decode prog_14_method_65_code 119 = .ok (.goto 4, 3) := by decide +kernel
theorem d_X12_run_122 : decode prog_14_method_65_code 122 = .ok (.iconst 0, 1) := by decide +kernel
theorem d_X12_run_123 : decode prog_14_method_65_code 123 = .ok (.iadd, 1) := by decide +kernel
theorem d_X12_run_124 : decode prog_14_method_65_code 124 = .ok (.istore_n 3, 1) := by decide +kernel
theorem d_X12_run_125 : decode prog_14_method_65_code 125 = .ok (.goto (-76), 3) := by decide +kernel
theorem d_X12_run_128 : decode prog_14_method_65_code 128 = .ok (.iload_n 3, 1) := by decide +kernel
theorem d_X12_run_129 : decode prog_14_method_65_code 129 = .ok (.ireturn, 1) := by decide +kernel
theorem d_X12_step_0 : decode prog_14_method_62_code 0 = .ok (.aload_n 0, 1) := by decide +kernel
theorem d_X12_step_1 : decode prog_14_method_62_code 1 = .ok (.iload_n 1, 1) := by decide +kernel
theorem d_X12_step_2 : decode prog_14_method_62_code 2 = .ok (.invokevirtual 406, 3) := by decide +kernel
theorem d_X12_step_5 : decode prog_14_method_62_code 5 = .ok (.ifCond .ne 7, 3) := by decide +kernel
theorem d_X12_step_8 : decode prog_14_method_62_code 8 = .ok (.sipush (-1001), 3) := by decide +kernel
theorem d_X12_step_11 : decode prog_14_method_62_code 11 = .ok (.ireturn, 1) := by decide +kernel
theorem d_X12_step_12 : decode prog_14_method_62_code 12 = .ok (.aload_n 0, 1) := by decide +kernel
theorem d_X12_step_13 : decode prog_14_method_62_code 13 = .ok (.iload_n 1, 1) := by decide +kernel
theorem d_X12_step_14 : decode prog_14_method_62_code 14 = .ok (.invokevirtual 374, 3) := by decide +kernel
theorem d_X12_step_17 : decode prog_14_method_62_code 17 = .ok (.istore_n 2, 1) := by decide +kernel
theorem d_X12_step_18 : decode prog_14_method_62_code 18 = .ok (.iload_n 2, 1) := by decide +kernel
theorem d_X12_step_19 : decode prog_14_method_62_code 19 = .ok (.ifCond .lt 12, 3) := by decide +kernel
theorem d_X12_step_22 : decode prog_14_method_62_code 22 = .ok (.aload_n 0, 1) := by decide +kernel
theorem d_X12_step_23 : decode prog_14_method_62_code 23 = .ok (.iload_n 1, 1) := by decide +kernel
theorem d_X12_step_24 : decode prog_14_method_62_code 24 = .ok (.iload_n 2, 1) := by decide +kernel
theorem d_X12_step_25 : decode prog_14_method_62_code 25 = .ok (.invokevirtual 377, 3) := by decide +kernel
theorem d_X12_step_28 : decode prog_14_method_62_code 28 = .ok (.ifCond .ge 7, 3) := by decide +kernel
theorem d_X12_step_31 : decode prog_14_method_62_code 31 = .ok (.sipush (-1003), 3) := by decide +kernel
theorem d_X12_step_34 : decode prog_14_method_62_code 34 = .ok (.ireturn, 1) := by decide +kernel
theorem d_X12_step_35 : decode prog_14_method_62_code 35 = .ok (.aload_n 0, 1) := by decide +kernel
theorem d_X12_step_36 : decode prog_14_method_62_code 36 = .ok (.iload_n 1, 1) := by decide +kernel
theorem d_X12_step_37 : decode prog_14_method_62_code 37 = .ok (.iload_n 2, 1) := by decide +kernel
theorem d_X12_step_38 : decode prog_14_method_62_code 38 = .ok (.invokevirtual 427, 3) := by decide +kernel
theorem d_X12_step_41 : decode prog_14_method_62_code 41 = .ok (.ifCond .eq 7, 3) := by decide +kernel
theorem d_X12_step_44 : decode prog_14_method_62_code 44 = .ok (.iconst 1, 1) := by decide +kernel
theorem d_X12_step_45 : decode prog_14_method_62_code 45 = .ok (.goto 4, 3) := by decide +kernel
theorem d_X12_step_48 : decode prog_14_method_62_code 48 = .ok (.iconst 0, 1) := by decide +kernel
theorem d_X12_step_49 : decode prog_14_method_62_code 49 = .ok (.ireturn, 1) := by decide +kernel
theorem d_X12_trace_0 : decode prog_14_method_67_code 0 = .ok (.iload_n 1, 1) := by decide +kernel
theorem d_X12_trace_1 : decode prog_14_method_67_code 1 = .ok (.i2l, 1) := by decide +kernel
theorem d_X12_trace_2 : decode prog_14_method_67_code 2 = .ok (.lconst 0, 1) := by decide +kernel
theorem d_X12_trace_3 : decode prog_14_method_67_code 3 = .ok (.aload_n 0, 1) := by decide +kernel
theorem d_X12_trace_4 : decode prog_14_method_67_code 4 = .ok (.getfield 369, 3) := by decide +kernel
theorem d_X12_trace_7 : decode prog_14_method_67_code 7 = .ok (.bipush 50, 2) := by decide +kernel
theorem d_X12_trace_9 : decode prog_14_method_67_code 9 = .ok (.if_icmp .ge 10, 3) := by decide +kernel
theorem d_X12_trace_12 : decode prog_14_method_67_code 12 = .ok (.aload_n 0, 1) := by decide +kernel
theorem d_X12_trace_13 : decode prog_14_method_67_code 13 = .ok (.getfield 369, 3) := by decide +kernel
theorem d_X12_trace_16 : decode prog_14_method_67_code 16 = .ok (.goto 5, 3) := by decide +kernel
theorem d_X12_trace_19 : decode prog_14_method_67_code 19 = .ok (.bipush 50, 2) := by decide +kernel
theorem d_X12_trace_21 : decode prog_14_method_67_code 21 = .ok (.iconst 1, 1) := by decide +kernel
theorem d_X12_trace_22 : decode prog_14_method_67_code 22 = .ok (.isub, 1) := by decide +kernel
theorem d_X12_trace_23 : decode prog_14_method_67_code 23 = .ok (.i2l, 1) := by decide +kernel
theorem d_X12_trace_24 : decode prog_14_method_67_code 24 = .ok (.invokestatic 191, 3) := by decide +kernel
theorem d_X12_trace_27 : decode prog_14_method_67_code 27 = .ok (.ifCond .eq 22, 3) := by decide +kernel
theorem d_X12_trace_30 : decode prog_14_method_67_code 30 = .ok (.aload_n 0, 1) := by decide +kernel
theorem d_X12_trace_31 : decode prog_14_method_67_code 31 = .ok (.getfield 62, 3) := by decide +kernel
theorem d_X12_trace_34 : decode prog_14_method_67_code 34 = .ok (.aload_n 0, 1) := by decide +kernel
theorem d_X12_trace_35 : decode prog_14_method_67_code 35 = .ok (.getfield 369, 3) := by decide +kernel
theorem d_X12_trace_38 : decode prog_14_method_67_code 38 = .ok (.iconst 1, 1) := by decide +kernel
theorem d_X12_trace_39 : decode prog_14_method_67_code 39 = .ok (.isub, 1) := by decide +kernel
theorem d_X12_trace_40 : decode prog_14_method_67_code 40 = .ok (.iload_n 1, 1) := by decide +kernel
theorem d_X12_trace_41 : decode prog_14_method_67_code 41 = .ok (.isub, 1) := by decide +kernel
theorem d_X12_trace_42 : decode prog_14_method_67_code 42 = .ok (.bipush 50, 2) := by decide +kernel
theorem d_X12_trace_44 : decode prog_14_method_67_code 44 = .ok (.irem, 1) := by decide +kernel
theorem d_X12_trace_45 : decode prog_14_method_67_code 45 = .ok (.iaload, 1) := by decide +kernel
theorem d_X12_trace_46 : decode prog_14_method_67_code 46 = .ok (.goto 4, 3) := by decide +kernel
theorem d_X12_trace_49 : decode prog_14_method_67_code 49 = .ok (.iconst (-1), 1) := by decide +kernel
theorem d_X12_trace_50 : decode prog_14_method_67_code 50 = .ok (.ireturn, 1) := by decide +kernel
theorem d_X12_wired_0 : decode prog_14_method_53_code 0 = .ok (.aload_n 0, 1) := by decide +kernel
theorem d_X12_wired_1 : decode prog_14_method_53_code 1 = .ok (.iload_n 1, 1) := by decide +kernel
theorem d_X12_wired_2 : decode prog_14_method_53_code 2 = .ok (.invokevirtual 406, 3) := by decide +kernel
theorem d_X12_wired_5 : decode prog_14_method_53_code 5 = .ok (.ifCond .ne 7, 3) := by decide +kernel
theorem d_X12_wired_8 : decode prog_14_method_53_code 8 = .ok (.sipush (-1001), 3) := by decide +kernel
theorem d_X12_wired_11 : decode prog_14_method_53_code 11 = .ok (.ireturn, 1) := by decide +kernel
theorem d_X12_wired_12 : decode prog_14_method_53_code 12 = .ok (.iload_n 2, 1) := by decide +kernel
theorem d_X12_wired_13 : decode prog_14_method_53_code 13 = .ok (.i2l, 1) := by decide +kernel
theorem d_X12_wired_14 : decode prog_14_method_53_code 14 = .ok (.lconst 0, 1) := by decide +kernel
theorem d_X12_wired_15 : decode prog_14_method_53_code 15 = .ok (.aload_n 0, 1) := by decide +kernel
theorem d_X12_wired_16 : decode prog_14_method_53_code 16 = .ok (.getfield 21, 3) := by decide +kernel
theorem d_X12_wired_19 : decode prog_14_method_53_code 19 = .ok (.aload_n 0, 1) := by decide +kernel
theorem d_X12_wired_20 : decode prog_14_method_53_code 20 = .ok (.getfield 49, 3) := by decide +kernel
theorem d_X12_wired_23 : decode prog_14_method_53_code 23 = .ok (.iload_n 1, 1) := by decide +kernel
theorem d_X12_wired_24 : decode prog_14_method_53_code 24 = .ok (.iaload, 1) := by decide +kernel
theorem d_X12_wired_25 : decode prog_14_method_53_code 25 = .ok (.iaload, 1) := by decide +kernel
theorem d_X12_wired_26 : decode prog_14_method_53_code 26 = .ok (.iconst 1, 1) := by decide +kernel
theorem d_X12_wired_27 : decode prog_14_method_53_code 27 = .ok (.isub, 1) := by decide +kernel
theorem d_X12_wired_28 : decode prog_14_method_53_code 28 = .ok (.i2l, 1) := by decide +kernel
theorem d_X12_wired_29 : decode prog_14_method_53_code 29 = .ok (.invokestatic 191, 3) := by decide +kernel
theorem d_X12_wired_32 : decode prog_14_method_53_code 32 = .ok (.ifCond .eq 19, 3) := by decide +kernel
theorem d_X12_wired_35 : decode prog_14_method_53_code 35 = .ok (.aload_n 0, 1) := by decide +kernel
theorem d_X12_wired_36 : decode prog_14_method_53_code 36 = .ok (.getfield 52, 3) := by decide +kernel
theorem d_X12_wired_39 : decode prog_14_method_53_code 39 = .ok (.iconst 5, 1) := by decide +kernel
theorem d_X12_wired_40 : decode prog_14_method_53_code 40 = .ok (.iload_n 1, 1) := by decide +kernel
theorem d_X12_wired_41 : decode prog_14_method_53_code 41 = .ok (.imul, 1) := by decide +kernel
theorem d_X12_wired_42 : decode prog_14_method_53_code 42 = .ok (.iload_n 2, 1) := by decide +kernel
theorem d_X12_wired_43 : decode prog_14_method_53_code 43 = .ok (.iadd, 1) := by decide +kernel
theorem d_X12_wired_44 : decode prog_14_method_53_code 44 = .ok (.iaload, 1) := by decide +kernel
theorem d_X12_wired_45 : decode prog_14_method_53_code 45 = .ok (.invokestatic 409, 3) := by decide +kernel
theorem d_X12_wired_48 : decode prog_14_method_53_code 48 = .ok (.goto 6, 3) := by decide +kernel
theorem d_X12_wired_51 : decode prog_14_method_53_code 51 = .ok (.sipush (-1002), 3) := by decide +kernel
theorem d_X12_wired_54 : decode prog_14_method_53_code 54 = .ok (.ireturn, 1) := by decide +kernel
