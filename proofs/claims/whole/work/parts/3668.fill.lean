theorem mw_1266 : Cond.methodLink RX12 1 Lib.objectInit ∈ gtbl := mg (List.mem_of_getElem? (i := 1266) (by decide +kernel)) (by decide +kernel)
theorem dX12_init_0 : decode cX12_init 0 = .ok (.aload_n 0, 1) := by decide +kernel
theorem dX12_init_1 : decode cX12_init 1 = .ok (.invokespecial 1, 3) := by decide +kernel
theorem dX12_init_19 : decode cX12_init 19 = .ok (.iconst 0, 1) := by decide +kernel
theorem dX12_init_20 : decode cX12_init 20 = .ok (.bipush 97, 2) := by decide +kernel
theorem dX12_init_18 : decode cX12_init 18 = .ok (.dup, 1) := by decide +kernel
theorem dX12_init_22 : decode cX12_init 22 = .ok (.iastore, 1) := by decide +kernel
theorem dX12_init_24 : decode cX12_init 24 = .ok (.iconst 1, 1) := by decide +kernel
theorem dX12_init_25 : decode cX12_init 25 = .ok (.bipush 99, 2) := by decide +kernel
theorem dX12_init_23 : decode cX12_init 23 = .ok (.dup, 1) := by decide +kernel
theorem dX12_init_27 : decode cX12_init 27 = .ok (.iastore, 1) := by decide +kernel
theorem dX12_init_29 : decode cX12_init 29 = .ok (.iconst 2, 1) := by decide +kernel
theorem dX12_init_30 : decode cX12_init 30 = .ok (.bipush 116, 2) := by decide +kernel
theorem dX12_init_28 : decode cX12_init 28 = .ok (.dup, 1) := by decide +kernel
theorem dX12_init_32 : decode cX12_init 32 = .ok (.iastore, 1) := by decide +kernel
theorem dX12_init_34 : decode cX12_init 34 = .ok (.iconst 3, 1) := by decide +kernel
theorem dX12_init_35 : decode cX12_init 35 = .ok (.bipush 32, 2) := by decide +kernel
theorem dX12_init_33 : decode cX12_init 33 = .ok (.dup, 1) := by decide +kernel
theorem dX12_init_37 : decode cX12_init 37 = .ok (.iastore, 1) := by decide +kernel
theorem dX12_init_39 : decode cX12_init 39 = .ok (.iconst 4, 1) := by decide +kernel
theorem dX12_init_40 : decode cX12_init 40 = .ok (.bipush 103, 2) := by decide +kernel
theorem dX12_init_38 : decode cX12_init 38 = .ok (.dup, 1) := by decide +kernel
theorem dX12_init_42 : decode cX12_init 42 = .ok (.iastore, 1) := by decide +kernel
theorem dX12_init_44 : decode cX12_init 44 = .ok (.iconst 5, 1) := by decide +kernel
theorem dX12_init_45 : decode cX12_init 45 = .ok (.bipush 117, 2) := by decide +kernel
theorem dX12_init_43 : decode cX12_init 43 = .ok (.dup, 1) := by decide +kernel
theorem dX12_init_47 : decode cX12_init 47 = .ok (.iastore, 1) := by decide +kernel
theorem dX12_init_49 : decode cX12_init 49 = .ok (.bipush 6, 2) := by decide +kernel
theorem dX12_init_51 : decode cX12_init 51 = .ok (.bipush 101, 2) := by decide +kernel
theorem dX12_init_48 : decode cX12_init 48 = .ok (.dup, 1) := by decide +kernel
theorem dX12_init_53 : decode cX12_init 53 = .ok (.iastore, 1) := by decide +kernel
theorem dX12_init_55 : decode cX12_init 55 = .ok (.bipush 7, 2) := by decide +kernel
theorem dX12_init_57 : decode cX12_init 57 = .ok (.bipush 115, 2) := by decide +kernel
theorem dX12_init_54 : decode cX12_init 54 = .ok (.dup, 1) := by decide +kernel
theorem dX12_init_59 : decode cX12_init 59 = .ok (.iastore, 1) := by decide +kernel
theorem dX12_init_61 : decode cX12_init 61 = .ok (.bipush 8, 2) := by decide +kernel
theorem dX12_init_63 : decode cX12_init 63 = .ok (.bipush 116, 2) := by decide +kernel
theorem dX12_init_60 : decode cX12_init 60 = .ok (.dup, 1) := by decide +kernel
theorem dX12_init_65 : decode cX12_init 65 = .ok (.iastore, 1) := by decide +kernel
theorem dX12_init_67 : decode cX12_init 67 = .ok (.bipush 9, 2) := by decide +kernel
theorem dX12_init_69 : decode cX12_init 69 = .ok (.bipush 32, 2) := by decide +kernel
theorem dX12_init_66 : decode cX12_init 66 = .ok (.dup, 1) := by decide +kernel
theorem dX12_init_71 : decode cX12_init 71 = .ok (.iastore, 1) := by decide +kernel
theorem dX12_init_73 : decode cX12_init 73 = .ok (.bipush 10, 2) := by decide +kernel
theorem dX12_init_75 : decode cX12_init 75 = .ok (.bipush 103, 2) := by decide +kernel
theorem dX12_init_72 : decode cX12_init 72 = .ok (.dup, 1) := by decide +kernel
theorem dX12_init_77 : decode cX12_init 77 = .ok (.iastore, 1) := by decide +kernel
theorem dX12_init_79 : decode cX12_init 79 = .ok (.bipush 11, 2) := by decide +kernel
theorem dX12_init_81 : decode cX12_init 81 = .ok (.bipush 114, 2) := by decide +kernel
theorem dX12_init_78 : decode cX12_init 78 = .ok (.dup, 1) := by decide +kernel
theorem dX12_init_83 : decode cX12_init 83 = .ok (.iastore, 1) := by decide +kernel
theorem dX12_init_85 : decode cX12_init 85 = .ok (.bipush 12, 2) := by decide +kernel
theorem dX12_init_87 : decode cX12_init 87 = .ok (.bipush 97, 2) := by decide +kernel
theorem dX12_init_84 : decode cX12_init 84 = .ok (.dup, 1) := by decide +kernel
theorem dX12_init_89 : decode cX12_init 89 = .ok (.iastore, 1) := by decide +kernel
theorem dX12_init_91 : decode cX12_init 91 = .ok (.bipush 13, 2) := by decide +kernel
theorem dX12_init_93 : decode cX12_init 93 = .ok (.bipush 105, 2) := by decide +kernel
theorem dX12_init_90 : decode cX12_init 90 = .ok (.dup, 1) := by decide +kernel
theorem dX12_init_95 : decode cX12_init 95 = .ok (.iastore, 1) := by decide +kernel
theorem dX12_init_97 : decode cX12_init 97 = .ok (.bipush 14, 2) := by decide +kernel
theorem dX12_init_99 : decode cX12_init 99 = .ok (.bipush 110, 2) := by decide +kernel
theorem dX12_init_96 : decode cX12_init 96 = .ok (.dup, 1) := by decide +kernel
theorem dX12_init_101 : decode cX12_init 101 = .ok (.iastore, 1) := by decide +kernel
theorem dX12_init_103 : decode cX12_init 103 = .ok (.bipush 15, 2) := by decide +kernel
theorem dX12_init_105 : decode cX12_init 105 = .ok (.bipush 32, 2) := by decide +kernel
theorem dX12_init_102 : decode cX12_init 102 = .ok (.dup, 1) := by decide +kernel
theorem dX12_init_107 : decode cX12_init 107 = .ok (.iastore, 1) := by decide +kernel
theorem dX12_init_109 : decode cX12_init 109 = .ok (.bipush 16, 2) := by decide +kernel
theorem dX12_init_111 : decode cX12_init 111 = .ok (.bipush 115, 2) := by decide +kernel
theorem dX12_init_108 : decode cX12_init 108 = .ok (.dup, 1) := by decide +kernel
theorem dX12_init_113 : decode cX12_init 113 = .ok (.iastore, 1) := by decide +kernel
theorem dX12_init_115 : decode cX12_init 115 = .ok (.bipush 17, 2) := by decide +kernel
theorem dX12_init_117 : decode cX12_init 117 = .ok (.bipush 104, 2) := by decide +kernel
theorem dX12_init_114 : decode cX12_init 114 = .ok (.dup, 1) := by decide +kernel
theorem dX12_init_119 : decode cX12_init 119 = .ok (.iastore, 1) := by decide +kernel
theorem dX12_init_121 : decode cX12_init 121 = .ok (.bipush 18, 2) := by decide +kernel
theorem dX12_init_123 : decode cX12_init 123 = .ok (.bipush 111, 2) := by decide +kernel
theorem dX12_init_120 : decode cX12_init 120 = .ok (.dup, 1) := by decide +kernel
theorem dX12_init_125 : decode cX12_init 125 = .ok (.iastore, 1) := by decide +kernel
theorem dX12_init_127 : decode cX12_init 127 = .ok (.bipush 19, 2) := by decide +kernel
theorem dX12_init_129 : decode cX12_init 129 = .ok (.bipush 119, 2) := by decide +kernel
theorem dX12_init_126 : decode cX12_init 126 = .ok (.dup, 1) := by decide +kernel
theorem dX12_init_131 : decode cX12_init 131 = .ok (.iastore, 1) := by decide +kernel
theorem dX12_init_133 : decode cX12_init 133 = .ok (.bipush 20, 2) := by decide +kernel
theorem dX12_init_135 : decode cX12_init 135 = .ok (.bipush 32, 2) := by decide +kernel
theorem dX12_init_132 : decode cX12_init 132 = .ok (.dup, 1) := by decide +kernel
theorem dX12_init_137 : decode cX12_init 137 = .ok (.iastore, 1) := by decide +kernel
theorem dX12_init_139 : decode cX12_init 139 = .ok (.bipush 21, 2) := by decide +kernel
theorem dX12_init_141 : decode cX12_init 141 = .ok (.bipush 99, 2) := by decide +kernel
theorem dX12_init_138 : decode cX12_init 138 = .ok (.dup, 1) := by decide +kernel
theorem dX12_init_143 : decode cX12_init 143 = .ok (.iastore, 1) := by decide +kernel
theorem dX12_init_145 : decode cX12_init 145 = .ok (.bipush 22, 2) := by decide +kernel
theorem dX12_init_147 : decode cX12_init 147 = .ok (.bipush 111, 2) := by decide +kernel
theorem dX12_init_144 : decode cX12_init 144 = .ok (.dup, 1) := by decide +kernel
theorem dX12_init_149 : decode cX12_init 149 = .ok (.iastore, 1) := by decide +kernel
theorem dX12_init_151 : decode cX12_init 151 = .ok (.bipush 23, 2) := by decide +kernel
theorem dX12_init_153 : decode cX12_init 153 = .ok (.bipush 117, 2) := by decide +kernel
theorem dX12_init_150 : decode cX12_init 150 = .ok (.dup, 1) := by decide +kernel
theorem dX12_init_155 : decode cX12_init 155 = .ok (.iastore, 1) := by decide +kernel
theorem dX12_init_157 : decode cX12_init 157 = .ok (.bipush 24, 2) := by decide +kernel
theorem dX12_init_159 : decode cX12_init 159 = .ok (.bipush 103, 2) := by decide +kernel
theorem dX12_init_156 : decode cX12_init 156 = .ok (.dup, 1) := by decide +kernel
theorem dX12_init_161 : decode cX12_init 161 = .ok (.iastore, 1) := by decide +kernel
theorem dX12_init_163 : decode cX12_init 163 = .ok (.bipush 25, 2) := by decide +kernel
theorem dX12_init_165 : decode cX12_init 165 = .ok (.bipush 104, 2) := by decide +kernel
theorem dX12_init_162 : decode cX12_init 162 = .ok (.dup, 1) := by decide +kernel
theorem dX12_init_167 : decode cX12_init 167 = .ok (.iastore, 1) := by decide +kernel
theorem dX12_init_169 : decode cX12_init 169 = .ok (.bipush 26, 2) := by decide +kernel
theorem dX12_init_171 : decode cX12_init 171 = .ok (.bipush 32, 2) := by decide +kernel
theorem dX12_init_168 : decode cX12_init 168 = .ok (.dup, 1) := by decide +kernel
theorem dX12_init_173 : decode cX12_init 173 = .ok (.iastore, 1) := by decide +kernel
theorem dX12_init_175 : decode cX12_init 175 = .ok (.bipush 27, 2) := by decide +kernel
theorem dX12_init_177 : decode cX12_init 177 = .ok (.bipush 115, 2) := by decide +kernel
theorem dX12_init_174 : decode cX12_init 174 = .ok (.dup, 1) := by decide +kernel
theorem dX12_init_179 : decode cX12_init 179 = .ok (.iastore, 1) := by decide +kernel
theorem dX12_init_181 : decode cX12_init 181 = .ok (.bipush 28, 2) := by decide +kernel
theorem dX12_init_183 : decode cX12_init 183 = .ok (.bipush 101, 2) := by decide +kernel
theorem dX12_init_180 : decode cX12_init 180 = .ok (.dup, 1) := by decide +kernel
theorem dX12_init_185 : decode cX12_init 185 = .ok (.iastore, 1) := by decide +kernel
theorem dX12_init_187 : decode cX12_init 187 = .ok (.bipush 29, 2) := by decide +kernel
theorem dX12_init_189 : decode cX12_init 189 = .ok (.bipush 101, 2) := by decide +kernel
theorem dX12_init_186 : decode cX12_init 186 = .ok (.dup, 1) := by decide +kernel
theorem dX12_init_191 : decode cX12_init 191 = .ok (.iastore, 1) := by decide +kernel
theorem dX12_init_193 : decode cX12_init 193 = .ok (.bipush 30, 2) := by decide +kernel
theorem dX12_init_195 : decode cX12_init 195 = .ok (.bipush 100, 2) := by decide +kernel
theorem dX12_init_192 : decode cX12_init 192 = .ok (.dup, 1) := by decide +kernel
theorem dX12_init_197 : decode cX12_init 197 = .ok (.iastore, 1) := by decide +kernel
theorem dX12_init_199 : decode cX12_init 199 = .ok (.bipush 31, 2) := by decide +kernel
theorem dX12_init_201 : decode cX12_init 201 = .ok (.bipush 32, 2) := by decide +kernel
theorem dX12_init_198 : decode cX12_init 198 = .ok (.dup, 1) := by decide +kernel
theorem dX12_init_203 : decode cX12_init 203 = .ok (.iastore, 1) := by decide +kernel
theorem dX12_init_205 : decode cX12_init 205 = .ok (.bipush 32, 2) := by decide +kernel
theorem dX12_init_207 : decode cX12_init 207 = .ok (.bipush 108, 2) := by decide +kernel
theorem dX12_init_204 : decode cX12_init 204 = .ok (.dup, 1) := by decide +kernel
theorem dX12_init_209 : decode cX12_init 209 = .ok (.iastore, 1) := by decide +kernel
theorem dX12_init_211 : decode cX12_init 211 = .ok (.bipush 33, 2) := by decide +kernel
theorem dX12_init_213 : decode cX12_init 213 = .ok (.bipush 97, 2) := by decide +kernel
theorem dX12_init_210 : decode cX12_init 210 = .ok (.dup, 1) := by decide +kernel
theorem dX12_init_215 : decode cX12_init 215 = .ok (.iastore, 1) := by decide +kernel
theorem dX12_init_217 : decode cX12_init 217 = .ok (.bipush 34, 2) := by decide +kernel
theorem dX12_init_219 : decode cX12_init 219 = .ok (.bipush 119, 2) := by decide +kernel
theorem dX12_init_216 : decode cX12_init 216 = .ok (.dup, 1) := by decide +kernel
theorem dX12_init_221 : decode cX12_init 221 = .ok (.iastore, 1) := by decide +kernel
theorem dX12_init_223 : decode cX12_init 223 = .ok (.bipush 35, 2) := by decide +kernel
theorem dX12_init_225 : decode cX12_init 225 = .ok (.bipush 32, 2) := by decide +kernel
theorem dX12_init_222 : decode cX12_init 222 = .ok (.dup, 1) := by decide +kernel
theorem dX12_init_227 : decode cX12_init 227 = .ok (.iastore, 1) := by decide +kernel
theorem dX12_init_229 : decode cX12_init 229 = .ok (.bipush 36, 2) := by decide +kernel
theorem dX12_init_231 : decode cX12_init 231 = .ok (.bipush 99, 2) := by decide +kernel
theorem dX12_init_228 : decode cX12_init 228 = .ok (.dup, 1) := by decide +kernel
theorem dX12_init_233 : decode cX12_init 233 = .ok (.iastore, 1) := by decide +kernel
theorem dX12_init_235 : decode cX12_init 235 = .ok (.bipush 37, 2) := by decide +kernel
theorem dX12_init_237 : decode cX12_init 237 = .ok (.bipush 108, 2) := by decide +kernel
theorem dX12_init_234 : decode cX12_init 234 = .ok (.dup, 1) := by decide +kernel
theorem dX12_init_239 : decode cX12_init 239 = .ok (.iastore, 1) := by decide +kernel
theorem dX12_init_241 : decode cX12_init 241 = .ok (.bipush 38, 2) := by decide +kernel
theorem dX12_init_243 : decode cX12_init 243 = .ok (.bipush 97, 2) := by decide +kernel
theorem dX12_init_240 : decode cX12_init 240 = .ok (.dup, 1) := by decide +kernel
theorem dX12_init_245 : decode cX12_init 245 = .ok (.iastore, 1) := by decide +kernel
theorem dX12_init_247 : decode cX12_init 247 = .ok (.bipush 39, 2) := by decide +kernel
theorem dX12_init_249 : decode cX12_init 249 = .ok (.bipush 112, 2) := by decide +kernel
theorem dX12_init_246 : decode cX12_init 246 = .ok (.dup, 1) := by decide +kernel
theorem dX12_init_251 : decode cX12_init 251 = .ok (.iastore, 1) := by decide +kernel
theorem dX12_init_253 : decode cX12_init 253 = .ok (.bipush 40, 2) := by decide +kernel
theorem dX12_init_255 : decode cX12_init 255 = .ok (.bipush 32, 2) := by decide +kernel
theorem dX12_init_252 : decode cX12_init 252 = .ok (.dup, 1) := by decide +kernel
theorem dX12_init_257 : decode cX12_init 257 = .ok (.iastore, 1) := by decide +kernel
theorem dX12_init_259 : decode cX12_init 259 = .ok (.bipush 41, 2) := by decide +kernel
theorem dX12_init_261 : decode cX12_init 261 = .ok (.bipush 116, 2) := by decide +kernel
theorem dX12_init_258 : decode cX12_init 258 = .ok (.dup, 1) := by decide +kernel
theorem dX12_init_263 : decode cX12_init 263 = .ok (.iastore, 1) := by decide +kernel
theorem dX12_init_265 : decode cX12_init 265 = .ok (.bipush 42, 2) := by decide +kernel
theorem dX12_init_267 : decode cX12_init 267 = .ok (.bipush 117, 2) := by decide +kernel
theorem dX12_init_264 : decode cX12_init 264 = .ok (.dup, 1) := by decide +kernel
theorem dX12_init_269 : decode cX12_init 269 = .ok (.iastore, 1) := by decide +kernel
theorem dX12_init_271 : decode cX12_init 271 = .ok (.bipush 43, 2) := by decide +kernel
theorem dX12_init_273 : decode cX12_init 273 = .ok (.bipush 114, 2) := by decide +kernel
theorem dX12_init_270 : decode cX12_init 270 = .ok (.dup, 1) := by decide +kernel
theorem dX12_init_275 : decode cX12_init 275 = .ok (.iastore, 1) := by decide +kernel
theorem dX12_init_277 : decode cX12_init 277 = .ok (.bipush 44, 2) := by decide +kernel
theorem dX12_init_279 : decode cX12_init 279 = .ok (.bipush 110, 2) := by decide +kernel
theorem dX12_init_276 : decode cX12_init 276 = .ok (.dup, 1) := by decide +kernel
theorem dX12_init_281 : decode cX12_init 281 = .ok (.iastore, 1) := by decide +kernel
theorem dX12_init_283 : decode cX12_init 283 = .ok (.bipush 45, 2) := by decide +kernel
theorem dX12_init_285 : decode cX12_init 285 = .ok (.bipush 32, 2) := by decide +kernel
theorem dX12_init_282 : decode cX12_init 282 = .ok (.dup, 1) := by decide +kernel
theorem dX12_init_287 : decode cX12_init 287 = .ok (.iastore, 1) := by decide +kernel
theorem dX12_init_289 : decode cX12_init 289 = .ok (.bipush 46, 2) := by decide +kernel
theorem dX12_init_291 : decode cX12_init 291 = .ok (.bipush 103, 2) := by decide +kernel
theorem dX12_init_288 : decode cX12_init 288 = .ok (.dup, 1) := by decide +kernel
theorem dX12_init_293 : decode cX12_init 293 = .ok (.iastore, 1) := by decide +kernel
theorem dX12_init_295 : decode cX12_init 295 = .ok (.bipush 47, 2) := by decide +kernel
theorem dX12_init_297 : decode cX12_init 297 = .ok (.bipush 114, 2) := by decide +kernel
theorem dX12_init_294 : decode cX12_init 294 = .ok (.dup, 1) := by decide +kernel
theorem dX12_init_299 : decode cX12_init 299 = .ok (.iastore, 1) := by decide +kernel
theorem dX12_init_301 : decode cX12_init 301 = .ok (.bipush 48, 2) := by decide +kernel
theorem dX12_init_303 : decode cX12_init 303 = .ok (.bipush 105, 2) := by decide +kernel
theorem dX12_init_300 : decode cX12_init 300 = .ok (.dup, 1) := by decide +kernel
theorem dX12_init_305 : decode cX12_init 305 = .ok (.iastore, 1) := by decide +kernel
theorem dX12_init_307 : decode cX12_init 307 = .ok (.bipush 49, 2) := by decide +kernel
theorem dX12_init_309 : decode cX12_init 309 = .ok (.bipush 116, 2) := by decide +kernel
theorem dX12_init_306 : decode cX12_init 306 = .ok (.dup, 1) := by decide +kernel
theorem dX12_init_311 : decode cX12_init 311 = .ok (.iastore, 1) := by decide +kernel
theorem dX12_init_313 : decode cX12_init 313 = .ok (.bipush 50, 2) := by decide +kernel
theorem dX12_init_315 : decode cX12_init 315 = .ok (.bipush 32, 2) := by decide +kernel
theorem dX12_init_312 : decode cX12_init 312 = .ok (.dup, 1) := by decide +kernel
theorem dX12_init_317 : decode cX12_init 317 = .ok (.iastore, 1) := by decide +kernel
theorem dX12_init_319 : decode cX12_init 319 = .ok (.bipush 51, 2) := by decide +kernel
theorem dX12_init_321 : decode cX12_init 321 = .ok (.bipush 97, 2) := by decide +kernel
theorem dX12_init_318 : decode cX12_init 318 = .ok (.dup, 1) := by decide +kernel
theorem dX12_init_323 : decode cX12_init 323 = .ok (.iastore, 1) := by decide +kernel
theorem dX12_init_325 : decode cX12_init 325 = .ok (.bipush 52, 2) := by decide +kernel
theorem dX12_init_327 : decode cX12_init 327 = .ok (.bipush 110, 2) := by decide +kernel
theorem dX12_init_324 : decode cX12_init 324 = .ok (.dup, 1) := by decide +kernel
theorem dX12_init_329 : decode cX12_init 329 = .ok (.iastore, 1) := by decide +kernel
theorem dX12_init_331 : decode cX12_init 331 = .ok (.bipush 53, 2) := by decide +kernel
theorem dX12_init_333 : decode cX12_init 333 = .ok (.bipush 100, 2) := by decide +kernel
theorem dX12_init_330 : decode cX12_init 330 = .ok (.dup, 1) := by decide +kernel
theorem dX12_init_335 : decode cX12_init 335 = .ok (.iastore, 1) := by decide +kernel
theorem dX12_init_337 : decode cX12_init 337 = .ok (.bipush 54, 2) := by decide +kernel
theorem dX12_init_339 : decode cX12_init 339 = .ok (.bipush 32, 2) := by decide +kernel
theorem dX12_init_336 : decode cX12_init 336 = .ok (.dup, 1) := by decide +kernel
theorem dX12_init_341 : decode cX12_init 341 = .ok (.iastore, 1) := by decide +kernel
theorem dX12_init_343 : decode cX12_init 343 = .ok (.bipush 55, 2) := by decide +kernel
theorem dX12_init_345 : decode cX12_init 345 = .ok (.bipush 111, 2) := by decide +kernel
theorem dX12_init_342 : decode cX12_init 342 = .ok (.dup, 1) := by decide +kernel
theorem dX12_init_347 : decode cX12_init 347 = .ok (.iastore, 1) := by decide +kernel
theorem dX12_init_349 : decode cX12_init 349 = .ok (.bipush 56, 2) := by decide +kernel
theorem dX12_init_351 : decode cX12_init 351 = .ok (.bipush 114, 2) := by decide +kernel
theorem dX12_init_348 : decode cX12_init 348 = .ok (.dup, 1) := by decide +kernel
theorem dX12_init_353 : decode cX12_init 353 = .ok (.iastore, 1) := by decide +kernel
theorem dX12_init_355 : decode cX12_init 355 = .ok (.bipush 57, 2) := by decide +kernel
theorem dX12_init_357 : decode cX12_init 357 = .ok (.bipush 32, 2) := by decide +kernel
theorem dX12_init_354 : decode cX12_init 354 = .ok (.dup, 1) := by decide +kernel
theorem dX12_init_359 : decode cX12_init 359 = .ok (.iastore, 1) := by decide +kernel
theorem dX12_init_361 : decode cX12_init 361 = .ok (.bipush 58, 2) := by decide +kernel
theorem dX12_init_363 : decode cX12_init 363 = .ok (.bipush 110, 2) := by decide +kernel
theorem dX12_init_360 : decode cX12_init 360 = .ok (.dup, 1) := by decide +kernel
theorem dX12_init_365 : decode cX12_init 365 = .ok (.iastore, 1) := by decide +kernel
theorem dX12_init_367 : decode cX12_init 367 = .ok (.bipush 59, 2) := by decide +kernel
theorem dX12_init_369 : decode cX12_init 369 = .ok (.bipush 111, 2) := by decide +kernel
theorem dX12_init_366 : decode cX12_init 366 = .ok (.dup, 1) := by decide +kernel
theorem dX12_init_371 : decode cX12_init 371 = .ok (.iastore, 1) := by decide +kernel
theorem dX12_init_373 : decode cX12_init 373 = .ok (.bipush 60, 2) := by decide +kernel
theorem dX12_init_375 : decode cX12_init 375 = .ok (.bipush 116, 2) := by decide +kernel
theorem dX12_init_372 : decode cX12_init 372 = .ok (.dup, 1) := by decide +kernel
theorem dX12_init_377 : decode cX12_init 377 = .ok (.iastore, 1) := by decide +kernel
theorem dX12_init_379 : decode cX12_init 379 = .ok (.bipush 61, 2) := by decide +kernel
theorem dX12_init_381 : decode cX12_init 381 = .ok (.bipush 32, 2) := by decide +kernel
theorem dX12_init_378 : decode cX12_init 378 = .ok (.dup, 1) := by decide +kernel
theorem dX12_init_383 : decode cX12_init 383 = .ok (.iastore, 1) := by decide +kernel
theorem dX12_init_385 : decode cX12_init 385 = .ok (.bipush 62, 2) := by decide +kernel
theorem dX12_init_387 : decode cX12_init 387 = .ok (.bipush 109, 2) := by decide +kernel
theorem dX12_init_384 : decode cX12_init 384 = .ok (.dup, 1) := by decide +kernel
theorem dX12_init_389 : decode cX12_init 389 = .ok (.iastore, 1) := by decide +kernel
theorem dX12_init_391 : decode cX12_init 391 = .ok (.bipush 63, 2) := by decide +kernel
theorem dX12_init_393 : decode cX12_init 393 = .ok (.bipush 111, 2) := by decide +kernel
theorem dX12_init_390 : decode cX12_init 390 = .ok (.dup, 1) := by decide +kernel
theorem dX12_init_395 : decode cX12_init 395 = .ok (.iastore, 1) := by decide +kernel
theorem dX12_init_397 : decode cX12_init 397 = .ok (.bipush 64, 2) := by decide +kernel
theorem dX12_init_399 : decode cX12_init 399 = .ok (.bipush 111, 2) := by decide +kernel
theorem dX12_init_396 : decode cX12_init 396 = .ok (.dup, 1) := by decide +kernel
theorem dX12_init_401 : decode cX12_init 401 = .ok (.iastore, 1) := by decide +kernel
theorem dX12_init_403 : decode cX12_init 403 = .ok (.bipush 65, 2) := by decide +kernel
theorem dX12_init_405 : decode cX12_init 405 = .ok (.bipush 100, 2) := by decide +kernel
theorem dX12_init_402 : decode cX12_init 402 = .ok (.dup, 1) := by decide +kernel
theorem dX12_init_407 : decode cX12_init 407 = .ok (.iastore, 1) := by decide +kernel
theorem dX12_init_409 : decode cX12_init 409 = .ok (.bipush 66, 2) := by decide +kernel
theorem dX12_init_411 : decode cX12_init 411 = .ok (.bipush 32, 2) := by decide +kernel
theorem dX12_init_408 : decode cX12_init 408 = .ok (.dup, 1) := by decide +kernel
theorem dX12_init_413 : decode cX12_init 413 = .ok (.iastore, 1) := by decide +kernel
theorem dX12_init_415 : decode cX12_init 415 = .ok (.bipush 67, 2) := by decide +kernel
theorem dX12_init_417 : decode cX12_init 417 = .ok (.bipush 116, 2) := by decide +kernel
theorem dX12_init_414 : decode cX12_init 414 = .ok (.dup, 1) := by decide +kernel
theorem dX12_init_419 : decode cX12_init 419 = .ok (.iastore, 1) := by decide +kernel
theorem dX12_init_421 : decode cX12_init 421 = .ok (.bipush 68, 2) := by decide +kernel
theorem dX12_init_423 : decode cX12_init 423 = .ok (.bipush 97, 2) := by decide +kernel
theorem dX12_init_420 : decode cX12_init 420 = .ok (.dup, 1) := by decide +kernel
theorem dX12_init_425 : decode cX12_init 425 = .ok (.iastore, 1) := by decide +kernel
theorem dX12_init_427 : decode cX12_init 427 = .ok (.bipush 69, 2) := by decide +kernel
theorem dX12_init_429 : decode cX12_init 429 = .ok (.bipush 115, 2) := by decide +kernel
theorem dX12_init_426 : decode cX12_init 426 = .ok (.dup, 1) := by decide +kernel
theorem dX12_init_431 : decode cX12_init 431 = .ok (.iastore, 1) := by decide +kernel
theorem dX12_init_433 : decode cX12_init 433 = .ok (.bipush 70, 2) := by decide +kernel
theorem dX12_init_435 : decode cX12_init 435 = .ok (.bipush 116, 2) := by decide +kernel
theorem dX12_init_432 : decode cX12_init 432 = .ok (.dup, 1) := by decide +kernel
theorem dX12_init_437 : decode cX12_init 437 = .ok (.iastore, 1) := by decide +kernel
theorem dX12_init_439 : decode cX12_init 439 = .ok (.bipush 71, 2) := by decide +kernel
theorem dX12_init_441 : decode cX12_init 441 = .ok (.bipush 101, 2) := by decide +kernel
theorem dX12_init_438 : decode cX12_init 438 = .ok (.dup, 1) := by decide +kernel
theorem dX12_init_443 : decode cX12_init 443 = .ok (.iastore, 1) := by decide +kernel
theorem dX12_init_445 : decode cX12_init 445 = .ok (.bipush 72, 2) := by decide +kernel
theorem dX12_init_447 : decode cX12_init 447 = .ok (.bipush 32, 2) := by decide +kernel
theorem dX12_init_444 : decode cX12_init 444 = .ok (.dup, 1) := by decide +kernel
theorem dX12_init_449 : decode cX12_init 449 = .ok (.iastore, 1) := by decide +kernel
theorem dX12_init_451 : decode cX12_init 451 = .ok (.bipush 73, 2) := by decide +kernel
theorem dX12_init_453 : decode cX12_init 453 = .ok (.bipush 104, 2) := by decide +kernel
theorem dX12_init_450 : decode cX12_init 450 = .ok (.dup, 1) := by decide +kernel
theorem dX12_init_455 : decode cX12_init 455 = .ok (.iastore, 1) := by decide +kernel
theorem dX12_init_457 : decode cX12_init 457 = .ok (.bipush 74, 2) := by decide +kernel
theorem dX12_init_459 : decode cX12_init 459 = .ok (.bipush 117, 2) := by decide +kernel
theorem dX12_init_456 : decode cX12_init 456 = .ok (.dup, 1) := by decide +kernel
theorem dX12_init_461 : decode cX12_init 461 = .ok (.iastore, 1) := by decide +kernel
theorem dX12_init_463 : decode cX12_init 463 = .ok (.bipush 75, 2) := by decide +kernel
theorem dX12_init_465 : decode cX12_init 465 = .ok (.bipush 110, 2) := by decide +kernel
theorem dX12_init_462 : decode cX12_init 462 = .ok (.dup, 1) := by decide +kernel
theorem dX12_init_467 : decode cX12_init 467 = .ok (.iastore, 1) := by decide +kernel
theorem dX12_init_469 : decode cX12_init 469 = .ok (.bipush 76, 2) := by decide +kernel
theorem dX12_init_471 : decode cX12_init 471 = .ok (.bipush 103, 2) := by decide +kernel
theorem dX12_init_468 : decode cX12_init 468 = .ok (.dup, 1) := by decide +kernel
theorem dX12_init_473 : decode cX12_init 473 = .ok (.iastore, 1) := by decide +kernel
theorem dX12_init_475 : decode cX12_init 475 = .ok (.bipush 77, 2) := by decide +kernel
theorem dX12_init_477 : decode cX12_init 477 = .ok (.bipush 101, 2) := by decide +kernel
theorem dX12_init_474 : decode cX12_init 474 = .ok (.dup, 1) := by decide +kernel
theorem dX12_init_479 : decode cX12_init 479 = .ok (.iastore, 1) := by decide +kernel
theorem dX12_init_481 : decode cX12_init 481 = .ok (.bipush 78, 2) := by decide +kernel
theorem dX12_init_483 : decode cX12_init 483 = .ok (.bipush 114, 2) := by decide +kernel
theorem dX12_init_480 : decode cX12_init 480 = .ok (.dup, 1) := by decide +kernel
theorem dX12_init_485 : decode cX12_init 485 = .ok (.iastore, 1) := by decide +kernel
theorem dX12_init_487 : decode cX12_init 487 = .ok (.bipush 79, 2) := by decide +kernel
theorem dX12_init_489 : decode cX12_init 489 = .ok (.bipush 32, 2) := by decide +kernel
theorem dX12_init_486 : decode cX12_init 486 = .ok (.dup, 1) := by decide +kernel
theorem dX12_init_491 : decode cX12_init 491 = .ok (.iastore, 1) := by decide +kernel
theorem dX12_init_493 : decode cX12_init 493 = .ok (.bipush 80, 2) := by decide +kernel
theorem dX12_init_495 : decode cX12_init 495 = .ok (.bipush 98, 2) := by decide +kernel
theorem dX12_init_492 : decode cX12_init 492 = .ok (.dup, 1) := by decide +kernel
theorem dX12_init_497 : decode cX12_init 497 = .ok (.iastore, 1) := by decide +kernel
theorem dX12_init_499 : decode cX12_init 499 = .ok (.bipush 81, 2) := by decide +kernel
theorem dX12_init_501 : decode cX12_init 501 = .ok (.bipush 101, 2) := by decide +kernel
theorem dX12_init_498 : decode cX12_init 498 = .ok (.dup, 1) := by decide +kernel
theorem dX12_init_503 : decode cX12_init 503 = .ok (.iastore, 1) := by decide +kernel
theorem dX12_init_505 : decode cX12_init 505 = .ok (.bipush 82, 2) := by decide +kernel
theorem dX12_init_507 : decode cX12_init 507 = .ok (.bipush 115, 2) := by decide +kernel
theorem dX12_init_504 : decode cX12_init 504 = .ok (.dup, 1) := by decide +kernel
theorem dX12_init_509 : decode cX12_init 509 = .ok (.iastore, 1) := by decide +kernel
theorem dX12_init_511 : decode cX12_init 511 = .ok (.bipush 83, 2) := by decide +kernel
theorem dX12_init_513 : decode cX12_init 513 = .ok (.bipush 105, 2) := by decide +kernel
theorem dX12_init_510 : decode cX12_init 510 = .ok (.dup, 1) := by decide +kernel
theorem dX12_init_515 : decode cX12_init 515 = .ok (.iastore, 1) := by decide +kernel
theorem dX12_init_517 : decode cX12_init 517 = .ok (.bipush 84, 2) := by decide +kernel
theorem dX12_init_519 : decode cX12_init 519 = .ok (.bipush 100, 2) := by decide +kernel
theorem dX12_init_516 : decode cX12_init 516 = .ok (.dup, 1) := by decide +kernel
theorem dX12_init_521 : decode cX12_init 521 = .ok (.iastore, 1) := by decide +kernel
theorem dX12_init_523 : decode cX12_init 523 = .ok (.bipush 85, 2) := by decide +kernel
theorem dX12_init_525 : decode cX12_init 525 = .ok (.bipush 101, 2) := by decide +kernel
theorem dX12_init_522 : decode cX12_init 522 = .ok (.dup, 1) := by decide +kernel
theorem dX12_init_527 : decode cX12_init 527 = .ok (.iastore, 1) := by decide +kernel
theorem dX12_init_529 : decode cX12_init 529 = .ok (.bipush 86, 2) := by decide +kernel
theorem dX12_init_531 : decode cX12_init 531 = .ok (.bipush 32, 2) := by decide +kernel
theorem dX12_init_528 : decode cX12_init 528 = .ok (.dup, 1) := by decide +kernel
theorem dX12_init_533 : decode cX12_init 533 = .ok (.iastore, 1) := by decide +kernel
theorem dX12_init_535 : decode cX12_init 535 = .ok (.bipush 87, 2) := by decide +kernel
theorem dX12_init_537 : decode cX12_init 537 = .ok (.bipush 115, 2) := by decide +kernel
theorem dX12_init_534 : decode cX12_init 534 = .ok (.dup, 1) := by decide +kernel
theorem dX12_init_539 : decode cX12_init 539 = .ok (.iastore, 1) := by decide +kernel
theorem dX12_init_541 : decode cX12_init 541 = .ok (.bipush 88, 2) := by decide +kernel
theorem dX12_init_543 : decode cX12_init 543 = .ok (.bipush 112, 2) := by decide +kernel
theorem dX12_init_540 : decode cX12_init 540 = .ok (.dup, 1) := by decide +kernel
theorem dX12_init_545 : decode cX12_init 545 = .ok (.iastore, 1) := by decide +kernel
theorem dX12_init_547 : decode cX12_init 547 = .ok (.bipush 89, 2) := by decide +kernel
theorem dX12_init_549 : decode cX12_init 549 = .ok (.bipush 101, 2) := by decide +kernel
theorem dX12_init_546 : decode cX12_init 546 = .ok (.dup, 1) := by decide +kernel
theorem dX12_init_551 : decode cX12_init 551 = .ok (.iastore, 1) := by decide +kernel
theorem dX12_init_553 : decode cX12_init 553 = .ok (.bipush 90, 2) := by decide +kernel
theorem dX12_init_555 : decode cX12_init 555 = .ok (.bipush 101, 2) := by decide +kernel
theorem dX12_init_552 : decode cX12_init 552 = .ok (.dup, 1) := by decide +kernel
theorem dX12_init_557 : decode cX12_init 557 = .ok (.iastore, 1) := by decide +kernel
theorem dX12_init_559 : decode cX12_init 559 = .ok (.bipush 91, 2) := by decide +kernel
theorem dX12_init_561 : decode cX12_init 561 = .ok (.bipush 100, 2) := by decide +kernel
theorem dX12_init_558 : decode cX12_init 558 = .ok (.dup, 1) := by decide +kernel
theorem dX12_init_563 : decode cX12_init 563 = .ok (.iastore, 1) := by decide +kernel
theorem dX12_init_565 : decode cX12_init 565 = .ok (.bipush 92, 2) := by decide +kernel
theorem dX12_init_567 : decode cX12_init 567 = .ok (.bipush 32, 2) := by decide +kernel
theorem dX12_init_564 : decode cX12_init 564 = .ok (.dup, 1) := by decide +kernel
theorem dX12_init_569 : decode cX12_init 569 = .ok (.iastore, 1) := by decide +kernel
theorem dX12_init_571 : decode cX12_init 571 = .ok (.bipush 93, 2) := by decide +kernel
theorem dX12_init_573 : decode cX12_init 573 = .ok (.bipush 116, 2) := by decide +kernel
theorem dX12_init_570 : decode cX12_init 570 = .ok (.dup, 1) := by decide +kernel
theorem dX12_init_575 : decode cX12_init 575 = .ok (.iastore, 1) := by decide +kernel
theorem dX12_init_577 : decode cX12_init 577 = .ok (.bipush 94, 2) := by decide +kernel
theorem dX12_init_579 : decode cX12_init 579 = .ok (.bipush 105, 2) := by decide +kernel
theorem dX12_init_576 : decode cX12_init 576 = .ok (.dup, 1) := by decide +kernel
theorem dX12_init_581 : decode cX12_init 581 = .ok (.iastore, 1) := by decide +kernel
theorem dX12_init_583 : decode cX12_init 583 = .ok (.bipush 95, 2) := by decide +kernel
theorem dX12_init_585 : decode cX12_init 585 = .ok (.bipush 114, 2) := by decide +kernel
theorem dX12_init_582 : decode cX12_init 582 = .ok (.dup, 1) := by decide +kernel
theorem dX12_init_587 : decode cX12_init 587 = .ok (.iastore, 1) := by decide +kernel
theorem dX12_init_589 : decode cX12_init 589 = .ok (.bipush 96, 2) := by decide +kernel
theorem dX12_init_591 : decode cX12_init 591 = .ok (.bipush 101, 2) := by decide +kernel
theorem dX12_init_588 : decode cX12_init 588 = .ok (.dup, 1) := by decide +kernel
theorem dX12_init_593 : decode cX12_init 593 = .ok (.iastore, 1) := by decide +kernel
theorem dX12_init_595 : decode cX12_init 595 = .ok (.bipush 97, 2) := by decide +kernel
theorem dX12_init_597 : decode cX12_init 597 = .ok (.bipush 100, 2) := by decide +kernel
theorem dX12_init_594 : decode cX12_init 594 = .ok (.dup, 1) := by decide +kernel
theorem dX12_init_599 : decode cX12_init 599 = .ok (.iastore, 1) := by decide +kernel
theorem dX12_init_601 : decode cX12_init 601 = .ok (.bipush 98, 2) := by decide +kernel
theorem dX12_init_603 : decode cX12_init 603 = .ok (.bipush 32, 2) := by decide +kernel
theorem dX12_init_600 : decode cX12_init 600 = .ok (.dup, 1) := by decide +kernel
theorem dX12_init_605 : decode cX12_init 605 = .ok (.iastore, 1) := by decide +kernel
theorem dX12_init_607 : decode cX12_init 607 = .ok (.bipush 99, 2) := by decide +kernel
theorem dX12_init_609 : decode cX12_init 609 = .ok (.bipush 109, 2) := by decide +kernel
theorem dX12_init_606 : decode cX12_init 606 = .ok (.dup, 1) := by decide +kernel
theorem dX12_init_611 : decode cX12_init 611 = .ok (.iastore, 1) := by decide +kernel
theorem dX12_init_613 : decode cX12_init 613 = .ok (.bipush 100, 2) := by decide +kernel
theorem dX12_init_615 : decode cX12_init 615 = .ok (.bipush 105, 2) := by decide +kernel
theorem dX12_init_612 : decode cX12_init 612 = .ok (.dup, 1) := by decide +kernel
theorem dX12_init_617 : decode cX12_init 617 = .ok (.iastore, 1) := by decide +kernel
theorem dX12_init_619 : decode cX12_init 619 = .ok (.bipush 101, 2) := by decide +kernel
theorem dX12_init_621 : decode cX12_init 621 = .ok (.bipush 110, 2) := by decide +kernel
theorem dX12_init_618 : decode cX12_init 618 = .ok (.dup, 1) := by decide +kernel
theorem dX12_init_623 : decode cX12_init 623 = .ok (.iastore, 1) := by decide +kernel
theorem dX12_init_625 : decode cX12_init 625 = .ok (.bipush 102, 2) := by decide +kernel
theorem dX12_init_627 : decode cX12_init 627 = .ok (.bipush 117, 2) := by decide +kernel
theorem dX12_init_624 : decode cX12_init 624 = .ok (.dup, 1) := by decide +kernel
theorem dX12_init_629 : decode cX12_init 629 = .ok (.iastore, 1) := by decide +kernel
theorem dX12_init_631 : decode cX12_init 631 = .ok (.bipush 103, 2) := by decide +kernel
theorem dX12_init_633 : decode cX12_init 633 = .ok (.bipush 116, 2) := by decide +kernel
theorem dX12_init_630 : decode cX12_init 630 = .ok (.dup, 1) := by decide +kernel
theorem dX12_init_635 : decode cX12_init 635 = .ok (.iastore, 1) := by decide +kernel
theorem dX12_init_637 : decode cX12_init 637 = .ok (.bipush 104, 2) := by decide +kernel
theorem dX12_init_639 : decode cX12_init 639 = .ok (.bipush 101, 2) := by decide +kernel
theorem dX12_init_636 : decode cX12_init 636 = .ok (.dup, 1) := by decide +kernel
theorem dX12_init_641 : decode cX12_init 641 = .ok (.iastore, 1) := by decide +kernel
theorem dX12_init_643 : decode cX12_init 643 = .ok (.bipush 105, 2) := by decide +kernel
theorem dX12_init_645 : decode cX12_init 645 = .ok (.bipush 32, 2) := by decide +kernel
theorem dX12_init_642 : decode cX12_init 642 = .ok (.dup, 1) := by decide +kernel
theorem dX12_init_647 : decode cX12_init 647 = .ok (.iastore, 1) := by decide +kernel
theorem dX12_init_5 : decode cX12_init 5 = .ok (.sipush 700, 3) := by decide +kernel
theorem dX12_init_4 : decode cX12_init 4 = .ok (.aload_n 0, 1) := by decide +kernel
theorem dX12_init_8 : decode cX12_init 8 = .ok (.newarray .int, 2) := by decide +kernel
theorem dX12_init_10 : decode cX12_init 10 = .ok (.putfield 7, 3) := by decide +kernel
theorem dX12_init_13 : decode cX12_init 13 = .ok (.aload_n 0, 1) := by decide +kernel
theorem dX12_init_14 : decode cX12_init 14 = .ok (.bipush 106, 2) := by decide +kernel
theorem dX12_init_16 : decode cX12_init 16 = .ok (.newarray .int, 2) := by decide +kernel
theorem dX12_init_648 : decode cX12_init 648 = .ok (.putfield 13, 3) := by decide +kernel
theorem dX12_init_652 : decode cX12_init 652 = .ok (.iconst (-1), 1) := by decide +kernel
theorem dX12_init_651 : decode cX12_init 651 = .ok (.aload_n 0, 1) := by decide +kernel
theorem dX12_init_653 : decode cX12_init 653 = .ok (.putfield 16, 3) := by decide +kernel
theorem dX12_init_657 : decode cX12_init 657 = .ok (.iconst 2, 1) := by decide +kernel
theorem dX12_init_656 : decode cX12_init 656 = .ok (.aload_n 0, 1) := by decide +kernel
theorem dX12_init_658 : decode cX12_init 658 = .ok (.newarray .boolean, 2) := by decide +kernel
theorem dX12_init_660 : decode cX12_init 660 = .ok (.putfield 20, 3) := by decide +kernel
theorem dX12_init_664 : decode cX12_init 664 = .ok (.iconst 4, 1) := by decide +kernel
theorem dX12_init_663 : decode cX12_init 663 = .ok (.aload_n 0, 1) := by decide +kernel
theorem dX12_init_665 : decode cX12_init 665 = .ok (.newarray .int, 2) := by decide +kernel
theorem dX12_init_667 : decode cX12_init 667 = .ok (.putfield 24, 3) := by decide +kernel
theorem dX12_init_671 : decode cX12_init 671 = .ok (.bipush 12, 2) := by decide +kernel
theorem dX12_init_670 : decode cX12_init 670 = .ok (.aload_n 0, 1) := by decide +kernel
theorem dX12_init_673 : decode cX12_init 673 = .ok (.newarray .int, 2) := by decide +kernel
theorem dX12_init_675 : decode cX12_init 675 = .ok (.putfield 27, 3) := by decide +kernel
theorem dX12_init_679 : decode cX12_init 679 = .ok (.bipush 12, 2) := by decide +kernel
theorem dX12_init_678 : decode cX12_init 678 = .ok (.aload_n 0, 1) := by decide +kernel
theorem dX12_init_681 : decode cX12_init 681 = .ok (.newarray .int, 2) := by decide +kernel
theorem dX12_init_683 : decode cX12_init 683 = .ok (.putfield 30, 3) := by decide +kernel
theorem dX12_init_687 : decode cX12_init 687 = .ok (.bipush 12, 2) := by decide +kernel
theorem dX12_init_686 : decode cX12_init 686 = .ok (.aload_n 0, 1) := by decide +kernel
theorem dX12_init_689 : decode cX12_init 689 = .ok (.newarray .int, 2) := by decide +kernel
theorem dX12_init_691 : decode cX12_init 691 = .ok (.putfield 33, 3) := by decide +kernel
theorem dX12_init_695 : decode cX12_init 695 = .ok (.bipush 12, 2) := by decide +kernel
theorem dX12_init_694 : decode cX12_init 694 = .ok (.aload_n 0, 1) := by decide +kernel
theorem dX12_init_697 : decode cX12_init 697 = .ok (.newarray .int, 2) := by decide +kernel
theorem dX12_init_699 : decode cX12_init 699 = .ok (.putfield 36, 3) := by decide +kernel
theorem dX12_init_703 : decode cX12_init 703 = .ok (.bipush 12, 2) := by decide +kernel
theorem dX12_init_702 : decode cX12_init 702 = .ok (.aload_n 0, 1) := by decide +kernel
theorem dX12_init_705 : decode cX12_init 705 = .ok (.newarray .int, 2) := by decide +kernel
theorem dX12_init_707 : decode cX12_init 707 = .ok (.putfield 39, 3) := by decide +kernel
theorem dX12_init_711 : decode cX12_init 711 = .ok (.bipush 12, 2) := by decide +kernel
theorem dX12_init_710 : decode cX12_init 710 = .ok (.aload_n 0, 1) := by decide +kernel
theorem dX12_init_713 : decode cX12_init 713 = .ok (.newarray .int, 2) := by decide +kernel
theorem dX12_init_715 : decode cX12_init 715 = .ok (.putfield 42, 3) := by decide +kernel
theorem dX12_init_719 : decode cX12_init 719 = .ok (.bipush 8, 2) := by decide +kernel
theorem dX12_init_718 : decode cX12_init 718 = .ok (.aload_n 0, 1) := by decide +kernel
theorem dX12_init_721 : decode cX12_init 721 = .ok (.newarray .int, 2) := by decide +kernel
theorem dX12_init_723 : decode cX12_init 723 = .ok (.putfield 45, 3) := by decide +kernel
theorem dX12_init_727 : decode cX12_init 727 = .ok (.bipush 8, 2) := by decide +kernel
theorem dX12_init_726 : decode cX12_init 726 = .ok (.aload_n 0, 1) := by decide +kernel
theorem dX12_init_729 : decode cX12_init 729 = .ok (.newarray .int, 2) := by decide +kernel
theorem dX12_init_731 : decode cX12_init 731 = .ok (.putfield 48, 3) := by decide +kernel
theorem dX12_init_735 : decode cX12_init 735 = .ok (.bipush 8, 2) := by decide +kernel
theorem dX12_init_734 : decode cX12_init 734 = .ok (.aload_n 0, 1) := by decide +kernel
theorem dX12_init_737 : decode cX12_init 737 = .ok (.newarray .int, 2) := by decide +kernel
theorem dX12_init_739 : decode cX12_init 739 = .ok (.putfield 51, 3) := by decide +kernel
theorem dX12_init_743 : decode cX12_init 743 = .ok (.bipush 8, 2) := by decide +kernel
theorem dX12_init_742 : decode cX12_init 742 = .ok (.aload_n 0, 1) := by decide +kernel
theorem dX12_init_745 : decode cX12_init 745 = .ok (.newarray .int, 2) := by decide +kernel
theorem dX12_init_747 : decode cX12_init 747 = .ok (.putfield 54, 3) := by decide +kernel
theorem dX12_init_751 : decode cX12_init 751 = .ok (.bipush 28, 2) := by decide +kernel
theorem dX12_init_750 : decode cX12_init 750 = .ok (.aload_n 0, 1) := by decide +kernel
theorem dX12_init_753 : decode cX12_init 753 = .ok (.newarray .int, 2) := by decide +kernel
theorem dX12_init_755 : decode cX12_init 755 = .ok (.putfield 57, 3) := by decide +kernel
theorem dX12_init_759 : decode cX12_init 759 = .ok (.bipush 28, 2) := by decide +kernel
theorem dX12_init_758 : decode cX12_init 758 = .ok (.aload_n 0, 1) := by decide +kernel
theorem dX12_init_761 : decode cX12_init 761 = .ok (.newarray .int, 2) := by decide +kernel
theorem dX12_init_763 : decode cX12_init 763 = .ok (.putfield 60, 3) := by decide +kernel
theorem dX12_init_767 : decode cX12_init 767 = .ok (.bipush 6, 2) := by decide +kernel
theorem dX12_init_766 : decode cX12_init 766 = .ok (.aload_n 0, 1) := by decide +kernel
theorem dX12_init_769 : decode cX12_init 769 = .ok (.newarray .boolean, 2) := by decide +kernel
theorem dX12_init_771 : decode cX12_init 771 = .ok (.putfield 63, 3) := by decide +kernel
theorem dX12_init_775 : decode cX12_init 775 = .ok (.bipush 6, 2) := by decide +kernel
theorem dX12_init_774 : decode cX12_init 774 = .ok (.aload_n 0, 1) := by decide +kernel
theorem dX12_init_777 : decode cX12_init 777 = .ok (.newarray .int, 2) := by decide +kernel
theorem dX12_init_779 : decode cX12_init 779 = .ok (.putfield 66, 3) := by decide +kernel
theorem dX12_init_783 : decode cX12_init 783 = .ok (.bipush 6, 2) := by decide +kernel
theorem dX12_init_782 : decode cX12_init 782 = .ok (.aload_n 0, 1) := by decide +kernel
theorem dX12_init_785 : decode cX12_init 785 = .ok (.newarray .int, 2) := by decide +kernel
theorem dX12_init_787 : decode cX12_init 787 = .ok (.putfield 69, 3) := by decide +kernel
theorem dX12_init_791 : decode cX12_init 791 = .ok (.sipush 128, 3) := by decide +kernel
theorem dX12_init_790 : decode cX12_init 790 = .ok (.aload_n 0, 1) := by decide +kernel
theorem dX12_init_794 : decode cX12_init 794 = .ok (.newarray .int, 2) := by decide +kernel
theorem dX12_init_796 : decode cX12_init 796 = .ok (.putfield 72, 3) := by decide +kernel
theorem dX12_init_800 : decode cX12_init 800 = .ok (.sipush 128, 3) := by decide +kernel
theorem dX12_init_799 : decode cX12_init 799 = .ok (.aload_n 0, 1) := by decide +kernel
theorem dX12_init_803 : decode cX12_init 803 = .ok (.newarray .int, 2) := by decide +kernel
theorem dX12_init_805 : decode cX12_init 805 = .ok (.putfield 75, 3) := by decide +kernel
theorem dX12_init_809 : decode cX12_init 809 = .ok (.sipush 128, 3) := by decide +kernel
theorem dX12_init_808 : decode cX12_init 808 = .ok (.aload_n 0, 1) := by decide +kernel
theorem dX12_init_812 : decode cX12_init 812 = .ok (.newarray .int, 2) := by decide +kernel
theorem dX12_init_814 : decode cX12_init 814 = .ok (.putfield 78, 3) := by decide +kernel
theorem dX12_init_818 : decode cX12_init 818 = .ok (.bipush 96, 2) := by decide +kernel
theorem dX12_init_817 : decode cX12_init 817 = .ok (.aload_n 0, 1) := by decide +kernel
theorem dX12_init_820 : decode cX12_init 820 = .ok (.newarray .int, 2) := by decide +kernel
theorem dX12_init_822 : decode cX12_init 822 = .ok (.putfield 81, 3) := by decide +kernel
theorem dX12_init_826 : decode cX12_init 826 = .ok (.bipush 96, 2) := by decide +kernel
theorem dX12_init_825 : decode cX12_init 825 = .ok (.aload_n 0, 1) := by decide +kernel
theorem dX12_init_828 : decode cX12_init 828 = .ok (.newarray .int, 2) := by decide +kernel
theorem dX12_init_830 : decode cX12_init 830 = .ok (.putfield 84, 3) := by decide +kernel
theorem dX12_init_834 : decode cX12_init 834 = .ok (.bipush 7, 2) := by decide +kernel
theorem dX12_init_833 : decode cX12_init 833 = .ok (.aload_n 0, 1) := by decide +kernel
theorem dX12_init_836 : decode cX12_init 836 = .ok (.newarray .long, 2) := by decide +kernel
theorem dX12_init_838 : decode cX12_init 838 = .ok (.putfield 87, 3) := by decide +kernel
theorem dX12_init_842 : decode cX12_init 842 = .ok (.bipush 64, 2) := by decide +kernel
theorem dX12_init_841 : decode cX12_init 841 = .ok (.aload_n 0, 1) := by decide +kernel
theorem dX12_init_844 : decode cX12_init 844 = .ok (.newarray .long, 2) := by decide +kernel
theorem dX12_init_846 : decode cX12_init 846 = .ok (.putfield 91, 3) := by decide +kernel
theorem dX12_init_850 : decode cX12_init 850 = .ok (.iconst 2, 1) := by decide +kernel
theorem dX12_init_849 : decode cX12_init 849 = .ok (.aload_n 0, 1) := by decide +kernel
theorem dX12_init_851 : decode cX12_init 851 = .ok (.newarray .int, 2) := by decide +kernel
theorem dX12_init_853 : decode cX12_init 853 = .ok (.putfield 94, 3) := by decide +kernel
theorem dX12_init_857 : decode cX12_init 857 = .ok (.iconst 2, 1) := by decide +kernel
theorem dX12_init_856 : decode cX12_init 856 = .ok (.aload_n 0, 1) := by decide +kernel
theorem dX12_init_858 : decode cX12_init 858 = .ok (.newarray .int, 2) := by decide +kernel
theorem dX12_init_860 : decode cX12_init 860 = .ok (.putfield 97, 3) := by decide +kernel
theorem dX12_init_864 : decode cX12_init 864 = .ok (.iconst 2, 1) := by decide +kernel
theorem dX12_init_863 : decode cX12_init 863 = .ok (.aload_n 0, 1) := by decide +kernel
theorem dX12_init_865 : decode cX12_init 865 = .ok (.newarray .int, 2) := by decide +kernel
theorem dX12_init_867 : decode cX12_init 867 = .ok (.putfield 100, 3) := by decide +kernel
theorem dX12_init_871 : decode cX12_init 871 = .ok (.iconst 2, 1) := by decide +kernel
theorem dX12_init_870 : decode cX12_init 870 = .ok (.aload_n 0, 1) := by decide +kernel
theorem dX12_init_872 : decode cX12_init 872 = .ok (.newarray .int, 2) := by decide +kernel
theorem dX12_init_874 : decode cX12_init 874 = .ok (.putfield 103, 3) := by decide +kernel
theorem dX12_init_878 : decode cX12_init 878 = .ok (.iconst 2, 1) := by decide +kernel
theorem dX12_init_877 : decode cX12_init 877 = .ok (.aload_n 0, 1) := by decide +kernel
theorem dX12_init_879 : decode cX12_init 879 = .ok (.newarray .int, 2) := by decide +kernel
theorem dX12_init_881 : decode cX12_init 881 = .ok (.putfield 106, 3) := by decide +kernel
theorem dX12_init_885 : decode cX12_init 885 = .ok (.iconst 2, 1) := by decide +kernel
theorem dX12_init_884 : decode cX12_init 884 = .ok (.aload_n 0, 1) := by decide +kernel
theorem dX12_init_886 : decode cX12_init 886 = .ok (.newarray .int, 2) := by decide +kernel
theorem dX12_init_888 : decode cX12_init 888 = .ok (.putfield 109, 3) := by decide +kernel
theorem dX12_init_892 : decode cX12_init 892 = .ok (.iconst 2, 1) := by decide +kernel
theorem dX12_init_891 : decode cX12_init 891 = .ok (.aload_n 0, 1) := by decide +kernel
theorem dX12_init_893 : decode cX12_init 893 = .ok (.newarray .int, 2) := by decide +kernel
theorem dX12_init_895 : decode cX12_init 895 = .ok (.putfield 112, 3) := by decide +kernel
theorem dX12_init_899 : decode cX12_init 899 = .ok (.bipush 12, 2) := by decide +kernel
theorem dX12_init_898 : decode cX12_init 898 = .ok (.aload_n 0, 1) := by decide +kernel
theorem dX12_init_901 : decode cX12_init 901 = .ok (.newarray .int, 2) := by decide +kernel
theorem dX12_init_903 : decode cX12_init 903 = .ok (.putfield 115, 3) := by decide +kernel
theorem dX12_init_907 : decode cX12_init 907 = .ok (.bipush 12, 2) := by decide +kernel
theorem dX12_init_906 : decode cX12_init 906 = .ok (.aload_n 0, 1) := by decide +kernel
theorem dX12_init_909 : decode cX12_init 909 = .ok (.newarray .int, 2) := by decide +kernel
theorem dX12_init_911 : decode cX12_init 911 = .ok (.putfield 118, 3) := by decide +kernel
theorem dX12_init_915 : decode cX12_init 915 = .ok (.bipush 12, 2) := by decide +kernel
theorem dX12_init_914 : decode cX12_init 914 = .ok (.aload_n 0, 1) := by decide +kernel
theorem dX12_init_917 : decode cX12_init 917 = .ok (.newarray .int, 2) := by decide +kernel
theorem dX12_init_919 : decode cX12_init 919 = .ok (.putfield 121, 3) := by decide +kernel
theorem dX12_init_923 : decode cX12_init 923 = .ok (.bipush 8, 2) := by decide +kernel
theorem dX12_init_922 : decode cX12_init 922 = .ok (.aload_n 0, 1) := by decide +kernel
theorem dX12_init_925 : decode cX12_init 925 = .ok (.newarray .int, 2) := by decide +kernel
theorem dX12_init_927 : decode cX12_init 927 = .ok (.putfield 124, 3) := by decide +kernel
theorem dX12_init_931 : decode cX12_init 931 = .ok (.bipush 6, 2) := by decide +kernel
theorem dX12_init_930 : decode cX12_init 930 = .ok (.aload_n 0, 1) := by decide +kernel
theorem dX12_init_933 : decode cX12_init 933 = .ok (.newarray .int, 2) := by decide +kernel
theorem dX12_init_935 : decode cX12_init 935 = .ok (.putfield 127, 3) := by decide +kernel
theorem dX12_init_939 : decode cX12_init 939 = .ok (.iconst (-1), 1) := by decide +kernel
theorem dX12_init_938 : decode cX12_init 938 = .ok (.aload_n 0, 1) := by decide +kernel
theorem dX12_init_940 : decode cX12_init 940 = .ok (.putfield 130, 3) := by decide +kernel
theorem dX12_init_944 : decode cX12_init 944 = .ok (.bipush 72, 2) := by decide +kernel
theorem dX12_init_943 : decode cX12_init 943 = .ok (.aload_n 0, 1) := by decide +kernel
theorem dX12_init_946 : decode cX12_init 946 = .ok (.newarray .int, 2) := by decide +kernel
theorem dX12_init_948 : decode cX12_init 948 = .ok (.putfield 133, 3) := by decide +kernel
theorem dX12_init_952 : decode cX12_init 952 = .ok (.bipush 24, 2) := by decide +kernel
theorem dX12_init_951 : decode cX12_init 951 = .ok (.aload_n 0, 1) := by decide +kernel
theorem dX12_init_954 : decode cX12_init 954 = .ok (.newarray .boolean, 2) := by decide +kernel
theorem dX12_init_956 : decode cX12_init 956 = .ok (.putfield 136, 3) := by decide +kernel
theorem dX12_init_960 : decode cX12_init 960 = .ok (.sipush 610, 3) := by decide +kernel
theorem dX12_init_959 : decode cX12_init 959 = .ok (.aload_n 0, 1) := by decide +kernel
theorem dX12_init_963 : decode cX12_init 963 = .ok (.newarray .int, 2) := by decide +kernel
theorem dX12_init_965 : decode cX12_init 965 = .ok (.putfield 139, 3) := by decide +kernel
theorem dX12_init_969 : decode cX12_init 969 = .ok (.sipush 180, 3) := by decide +kernel
theorem dX12_init_968 : decode cX12_init 968 = .ok (.aload_n 0, 1) := by decide +kernel
theorem dX12_init_972 : decode cX12_init 972 = .ok (.newarray .int, 2) := by decide +kernel
theorem dX12_init_974 : decode cX12_init 974 = .ok (.putfield 142, 3) := by decide +kernel
theorem dX12_init_978 : decode cX12_init 978 = .ok (.bipush 9, 2) := by decide +kernel
theorem dX12_init_977 : decode cX12_init 977 = .ok (.aload_n 0, 1) := by decide +kernel
theorem dX12_init_980 : decode cX12_init 980 = .ok (.newarray .int, 2) := by decide +kernel
theorem dX12_init_982 : decode cX12_init 982 = .ok (.putfield 145, 3) := by decide +kernel
theorem dX12_init_986 : decode cX12_init 986 = .ok (.bipush 20, 2) := by decide +kernel
theorem dX12_init_985 : decode cX12_init 985 = .ok (.aload_n 0, 1) := by decide +kernel
theorem dX12_init_988 : decode cX12_init 988 = .ok (.newarray .int, 2) := by decide +kernel
theorem dX12_init_990 : decode cX12_init 990 = .ok (.putfield 148, 3) := by decide +kernel
theorem dX12_init_993 : decode cX12_init 993 = .ok (.aload_n 0, 1) := by decide +kernel
theorem dX12_init_994 : decode cX12_init 994 = .ok (.invokevirtual 151, 3) := by decide +kernel
theorem dX12_init_997 : decode cX12_init 997 = .ok (.aload_n 0, 1) := by decide +kernel
theorem dX12_init_998 : decode cX12_init 998 = .ok (.invokevirtual 154, 3) := by decide +kernel
theorem dX12_init_1001 : decode cX12_init 1001 = .ok (.return_, 1) := by decide +kernel
/-! the reference is made -/
def rw3 (j : Nat) : Nat → Int32 := fun k => if k < j then nI (w3 k) else 0
theorem rw3_s (j : Nat) {x : Int32} (h : x = nI (w3 j)) : upd (rw3 j) j x = rw3 (j + 1) := by
  subst h
  funext k
  unfold upd rw3
  by_cases h : k = j
  · subst h; simp
  · simp only [h, if_false]
    by_cases h2 : k < j
    · rw [if_pos h2, if_pos (by omega)]
    · rw [if_neg h2, if_neg (by omega)]
set_option maxHeartbeats 4000000 in
set_option maxRecDepth 20000 in
theorem fl_a {p : Program} {l : Launch} {e : Env} {R : Room} {s : State} {m : MethodId} {args : Array Value} {below : List Frame} {meth : Method} {c : Code} {H : Heap} {locs : List Loc} {cells slots : Nat} {Q : State → Prop} {ls : Array Slot} {E : Ev} {A : Nat → Prop} {o t : Nat × va_E} {q2 : Nat} {rest : List Value} (C : CallFix p m c cX12_init 1 s args gtbl RX12) (hK : Kx E s) (hF : FW E A s.heap [o, t, (q2, .inl (E.2.1 0, 106, .inl (rw3 0)))] H locs)
    (kk : ∀ (H : Heap) (locs : List Loc), FW E A s.heap [o, t, (q2, .inl (E.2.1 0, 106, .inl (rw3 36)))] H locs → W p l e R s m args below meth c H locs cells slots Q (F0 m 228 ls (.ref q2 :: rest))) : W p l e R s m args below meth c H locs cells slots Q (F0 m 18 ls (.ref q2 :: rest)) := by
  refine lv_dup C.1 C.2.1 dX12_init_18 rfl ?_
  refine lv_iconst C.1 C.2.1 (v := 0) dX12_init_19 (by decide) ?_
  refine lv_bipush C.1 C.2.1 (v := 97) dX12_init_20 (by decide) ?_
  refine nx_iast C hK hF 2 rfl (j := 0) rfl (by decide) (by decide) (rw3_s 0 (by decide +kernel)) dX12_init_22 (fun H locs hF => ?_)
  have hF : FW E A s.heap [o, t, (q2, .inl (E.2.1 0, 106, .inl (rw3 1)))] _ _ := hF
  show W p l e R s m args below meth c H locs cells slots Q (F0 m 23 ls (.ref q2 :: rest))
  refine lv_dup C.1 C.2.1 dX12_init_23 rfl ?_
  refine lv_iconst C.1 C.2.1 (v := 1) dX12_init_24 (by decide) ?_
  refine lv_bipush C.1 C.2.1 (v := 99) dX12_init_25 (by decide) ?_
  refine nx_iast C hK hF 2 rfl (j := 1) rfl (by decide) (by decide) (rw3_s 1 (by decide +kernel)) dX12_init_27 (fun H locs hF => ?_)
  have hF : FW E A s.heap [o, t, (q2, .inl (E.2.1 0, 106, .inl (rw3 2)))] _ _ := hF
  show W p l e R s m args below meth c H locs cells slots Q (F0 m 28 ls (.ref q2 :: rest))
  refine lv_dup C.1 C.2.1 dX12_init_28 rfl ?_
  refine lv_iconst C.1 C.2.1 (v := 2) dX12_init_29 (by decide) ?_
  refine lv_bipush C.1 C.2.1 (v := 116) dX12_init_30 (by decide) ?_
  refine nx_iast C hK hF 2 rfl (j := 2) rfl (by decide) (by decide) (rw3_s 2 (by decide +kernel)) dX12_init_32 (fun H locs hF => ?_)
  have hF : FW E A s.heap [o, t, (q2, .inl (E.2.1 0, 106, .inl (rw3 3)))] _ _ := hF
  show W p l e R s m args below meth c H locs cells slots Q (F0 m 33 ls (.ref q2 :: rest))
  refine lv_dup C.1 C.2.1 dX12_init_33 rfl ?_
  refine lv_iconst C.1 C.2.1 (v := 3) dX12_init_34 (by decide) ?_
  refine lv_bipush C.1 C.2.1 (v := 32) dX12_init_35 (by decide) ?_
  refine nx_iast C hK hF 2 rfl (j := 3) rfl (by decide) (by decide) (rw3_s 3 (by decide +kernel)) dX12_init_37 (fun H locs hF => ?_)
  have hF : FW E A s.heap [o, t, (q2, .inl (E.2.1 0, 106, .inl (rw3 4)))] _ _ := hF
  show W p l e R s m args below meth c H locs cells slots Q (F0 m 38 ls (.ref q2 :: rest))
  refine lv_dup C.1 C.2.1 dX12_init_38 rfl ?_
  refine lv_iconst C.1 C.2.1 (v := 4) dX12_init_39 (by decide) ?_
  refine lv_bipush C.1 C.2.1 (v := 103) dX12_init_40 (by decide) ?_
  refine nx_iast C hK hF 2 rfl (j := 4) rfl (by decide) (by decide) (rw3_s 4 (by decide +kernel)) dX12_init_42 (fun H locs hF => ?_)
  have hF : FW E A s.heap [o, t, (q2, .inl (E.2.1 0, 106, .inl (rw3 5)))] _ _ := hF
  show W p l e R s m args below meth c H locs cells slots Q (F0 m 43 ls (.ref q2 :: rest))
  refine lv_dup C.1 C.2.1 dX12_init_43 rfl ?_
  refine lv_iconst C.1 C.2.1 (v := 5) dX12_init_44 (by decide) ?_
  refine lv_bipush C.1 C.2.1 (v := 117) dX12_init_45 (by decide) ?_
  refine nx_iast C hK hF 2 rfl (j := 5) rfl (by decide) (by decide) (rw3_s 5 (by decide +kernel)) dX12_init_47 (fun H locs hF => ?_)
  have hF : FW E A s.heap [o, t, (q2, .inl (E.2.1 0, 106, .inl (rw3 6)))] _ _ := hF
  show W p l e R s m args below meth c H locs cells slots Q (F0 m 48 ls (.ref q2 :: rest))
  refine lv_dup C.1 C.2.1 dX12_init_48 rfl ?_
  refine lv_bipush C.1 C.2.1 (v := 6) dX12_init_49 (by decide) ?_
  refine lv_bipush C.1 C.2.1 (v := 101) dX12_init_51 (by decide) ?_
  refine nx_iast C hK hF 2 rfl (j := 6) rfl (by decide) (by decide) (rw3_s 6 (by decide +kernel)) dX12_init_53 (fun H locs hF => ?_)
  have hF : FW E A s.heap [o, t, (q2, .inl (E.2.1 0, 106, .inl (rw3 7)))] _ _ := hF
  show W p l e R s m args below meth c H locs cells slots Q (F0 m 54 ls (.ref q2 :: rest))
  refine lv_dup C.1 C.2.1 dX12_init_54 rfl ?_
  refine lv_bipush C.1 C.2.1 (v := 7) dX12_init_55 (by decide) ?_
  refine lv_bipush C.1 C.2.1 (v := 115) dX12_init_57 (by decide) ?_
  refine nx_iast C hK hF 2 rfl (j := 7) rfl (by decide) (by decide) (rw3_s 7 (by decide +kernel)) dX12_init_59 (fun H locs hF => ?_)
  have hF : FW E A s.heap [o, t, (q2, .inl (E.2.1 0, 106, .inl (rw3 8)))] _ _ := hF
  show W p l e R s m args below meth c H locs cells slots Q (F0 m 60 ls (.ref q2 :: rest))
  refine lv_dup C.1 C.2.1 dX12_init_60 rfl ?_
  refine lv_bipush C.1 C.2.1 (v := 8) dX12_init_61 (by decide) ?_
  refine lv_bipush C.1 C.2.1 (v := 116) dX12_init_63 (by decide) ?_
  refine nx_iast C hK hF 2 rfl (j := 8) rfl (by decide) (by decide) (rw3_s 8 (by decide +kernel)) dX12_init_65 (fun H locs hF => ?_)
  have hF : FW E A s.heap [o, t, (q2, .inl (E.2.1 0, 106, .inl (rw3 9)))] _ _ := hF
  show W p l e R s m args below meth c H locs cells slots Q (F0 m 66 ls (.ref q2 :: rest))
  refine lv_dup C.1 C.2.1 dX12_init_66 rfl ?_
  refine lv_bipush C.1 C.2.1 (v := 9) dX12_init_67 (by decide) ?_
  refine lv_bipush C.1 C.2.1 (v := 32) dX12_init_69 (by decide) ?_
  refine nx_iast C hK hF 2 rfl (j := 9) rfl (by decide) (by decide) (rw3_s 9 (by decide +kernel)) dX12_init_71 (fun H locs hF => ?_)
  have hF : FW E A s.heap [o, t, (q2, .inl (E.2.1 0, 106, .inl (rw3 10)))] _ _ := hF
  show W p l e R s m args below meth c H locs cells slots Q (F0 m 72 ls (.ref q2 :: rest))
  refine lv_dup C.1 C.2.1 dX12_init_72 rfl ?_
  refine lv_bipush C.1 C.2.1 (v := 10) dX12_init_73 (by decide) ?_
  refine lv_bipush C.1 C.2.1 (v := 103) dX12_init_75 (by decide) ?_
  refine nx_iast C hK hF 2 rfl (j := 10) rfl (by decide) (by decide) (rw3_s 10 (by decide +kernel)) dX12_init_77 (fun H locs hF => ?_)
  have hF : FW E A s.heap [o, t, (q2, .inl (E.2.1 0, 106, .inl (rw3 11)))] _ _ := hF
  show W p l e R s m args below meth c H locs cells slots Q (F0 m 78 ls (.ref q2 :: rest))
  refine lv_dup C.1 C.2.1 dX12_init_78 rfl ?_
  refine lv_bipush C.1 C.2.1 (v := 11) dX12_init_79 (by decide) ?_
  refine lv_bipush C.1 C.2.1 (v := 114) dX12_init_81 (by decide) ?_
  refine nx_iast C hK hF 2 rfl (j := 11) rfl (by decide) (by decide) (rw3_s 11 (by decide +kernel)) dX12_init_83 (fun H locs hF => ?_)
  have hF : FW E A s.heap [o, t, (q2, .inl (E.2.1 0, 106, .inl (rw3 12)))] _ _ := hF
  show W p l e R s m args below meth c H locs cells slots Q (F0 m 84 ls (.ref q2 :: rest))
  refine lv_dup C.1 C.2.1 dX12_init_84 rfl ?_
  refine lv_bipush C.1 C.2.1 (v := 12) dX12_init_85 (by decide) ?_
  refine lv_bipush C.1 C.2.1 (v := 97) dX12_init_87 (by decide) ?_
  refine nx_iast C hK hF 2 rfl (j := 12) rfl (by decide) (by decide) (rw3_s 12 (by decide +kernel)) dX12_init_89 (fun H locs hF => ?_)
  have hF : FW E A s.heap [o, t, (q2, .inl (E.2.1 0, 106, .inl (rw3 13)))] _ _ := hF
  show W p l e R s m args below meth c H locs cells slots Q (F0 m 90 ls (.ref q2 :: rest))
  refine lv_dup C.1 C.2.1 dX12_init_90 rfl ?_
  refine lv_bipush C.1 C.2.1 (v := 13) dX12_init_91 (by decide) ?_
  refine lv_bipush C.1 C.2.1 (v := 105) dX12_init_93 (by decide) ?_
  refine nx_iast C hK hF 2 rfl (j := 13) rfl (by decide) (by decide) (rw3_s 13 (by decide +kernel)) dX12_init_95 (fun H locs hF => ?_)
  have hF : FW E A s.heap [o, t, (q2, .inl (E.2.1 0, 106, .inl (rw3 14)))] _ _ := hF
  show W p l e R s m args below meth c H locs cells slots Q (F0 m 96 ls (.ref q2 :: rest))
  refine lv_dup C.1 C.2.1 dX12_init_96 rfl ?_
  refine lv_bipush C.1 C.2.1 (v := 14) dX12_init_97 (by decide) ?_
  refine lv_bipush C.1 C.2.1 (v := 110) dX12_init_99 (by decide) ?_
  refine nx_iast C hK hF 2 rfl (j := 14) rfl (by decide) (by decide) (rw3_s 14 (by decide +kernel)) dX12_init_101 (fun H locs hF => ?_)
  have hF : FW E A s.heap [o, t, (q2, .inl (E.2.1 0, 106, .inl (rw3 15)))] _ _ := hF
  show W p l e R s m args below meth c H locs cells slots Q (F0 m 102 ls (.ref q2 :: rest))
  refine lv_dup C.1 C.2.1 dX12_init_102 rfl ?_
  refine lv_bipush C.1 C.2.1 (v := 15) dX12_init_103 (by decide) ?_
  refine lv_bipush C.1 C.2.1 (v := 32) dX12_init_105 (by decide) ?_
  refine nx_iast C hK hF 2 rfl (j := 15) rfl (by decide) (by decide) (rw3_s 15 (by decide +kernel)) dX12_init_107 (fun H locs hF => ?_)
  have hF : FW E A s.heap [o, t, (q2, .inl (E.2.1 0, 106, .inl (rw3 16)))] _ _ := hF
  show W p l e R s m args below meth c H locs cells slots Q (F0 m 108 ls (.ref q2 :: rest))
  refine lv_dup C.1 C.2.1 dX12_init_108 rfl ?_
  refine lv_bipush C.1 C.2.1 (v := 16) dX12_init_109 (by decide) ?_
  refine lv_bipush C.1 C.2.1 (v := 115) dX12_init_111 (by decide) ?_
  refine nx_iast C hK hF 2 rfl (j := 16) rfl (by decide) (by decide) (rw3_s 16 (by decide +kernel)) dX12_init_113 (fun H locs hF => ?_)
  have hF : FW E A s.heap [o, t, (q2, .inl (E.2.1 0, 106, .inl (rw3 17)))] _ _ := hF
  show W p l e R s m args below meth c H locs cells slots Q (F0 m 114 ls (.ref q2 :: rest))
  refine lv_dup C.1 C.2.1 dX12_init_114 rfl ?_
  refine lv_bipush C.1 C.2.1 (v := 17) dX12_init_115 (by decide) ?_
  refine lv_bipush C.1 C.2.1 (v := 104) dX12_init_117 (by decide) ?_
  refine nx_iast C hK hF 2 rfl (j := 17) rfl (by decide) (by decide) (rw3_s 17 (by decide +kernel)) dX12_init_119 (fun H locs hF => ?_)
  have hF : FW E A s.heap [o, t, (q2, .inl (E.2.1 0, 106, .inl (rw3 18)))] _ _ := hF
  show W p l e R s m args below meth c H locs cells slots Q (F0 m 120 ls (.ref q2 :: rest))
  refine lv_dup C.1 C.2.1 dX12_init_120 rfl ?_
  refine lv_bipush C.1 C.2.1 (v := 18) dX12_init_121 (by decide) ?_
  refine lv_bipush C.1 C.2.1 (v := 111) dX12_init_123 (by decide) ?_
  refine nx_iast C hK hF 2 rfl (j := 18) rfl (by decide) (by decide) (rw3_s 18 (by decide +kernel)) dX12_init_125 (fun H locs hF => ?_)
  have hF : FW E A s.heap [o, t, (q2, .inl (E.2.1 0, 106, .inl (rw3 19)))] _ _ := hF
  show W p l e R s m args below meth c H locs cells slots Q (F0 m 126 ls (.ref q2 :: rest))
  refine lv_dup C.1 C.2.1 dX12_init_126 rfl ?_
  refine lv_bipush C.1 C.2.1 (v := 19) dX12_init_127 (by decide) ?_
  refine lv_bipush C.1 C.2.1 (v := 119) dX12_init_129 (by decide) ?_
  refine nx_iast C hK hF 2 rfl (j := 19) rfl (by decide) (by decide) (rw3_s 19 (by decide +kernel)) dX12_init_131 (fun H locs hF => ?_)
  have hF : FW E A s.heap [o, t, (q2, .inl (E.2.1 0, 106, .inl (rw3 20)))] _ _ := hF
  show W p l e R s m args below meth c H locs cells slots Q (F0 m 132 ls (.ref q2 :: rest))
  refine lv_dup C.1 C.2.1 dX12_init_132 rfl ?_
  refine lv_bipush C.1 C.2.1 (v := 20) dX12_init_133 (by decide) ?_
  refine lv_bipush C.1 C.2.1 (v := 32) dX12_init_135 (by decide) ?_
  refine nx_iast C hK hF 2 rfl (j := 20) rfl (by decide) (by decide) (rw3_s 20 (by decide +kernel)) dX12_init_137 (fun H locs hF => ?_)
  have hF : FW E A s.heap [o, t, (q2, .inl (E.2.1 0, 106, .inl (rw3 21)))] _ _ := hF
  show W p l e R s m args below meth c H locs cells slots Q (F0 m 138 ls (.ref q2 :: rest))
  refine lv_dup C.1 C.2.1 dX12_init_138 rfl ?_
  refine lv_bipush C.1 C.2.1 (v := 21) dX12_init_139 (by decide) ?_
  refine lv_bipush C.1 C.2.1 (v := 99) dX12_init_141 (by decide) ?_
  refine nx_iast C hK hF 2 rfl (j := 21) rfl (by decide) (by decide) (rw3_s 21 (by decide +kernel)) dX12_init_143 (fun H locs hF => ?_)
  have hF : FW E A s.heap [o, t, (q2, .inl (E.2.1 0, 106, .inl (rw3 22)))] _ _ := hF
  show W p l e R s m args below meth c H locs cells slots Q (F0 m 144 ls (.ref q2 :: rest))
  refine lv_dup C.1 C.2.1 dX12_init_144 rfl ?_
  refine lv_bipush C.1 C.2.1 (v := 22) dX12_init_145 (by decide) ?_
  refine lv_bipush C.1 C.2.1 (v := 111) dX12_init_147 (by decide) ?_
  refine nx_iast C hK hF 2 rfl (j := 22) rfl (by decide) (by decide) (rw3_s 22 (by decide +kernel)) dX12_init_149 (fun H locs hF => ?_)
  have hF : FW E A s.heap [o, t, (q2, .inl (E.2.1 0, 106, .inl (rw3 23)))] _ _ := hF
  show W p l e R s m args below meth c H locs cells slots Q (F0 m 150 ls (.ref q2 :: rest))
  refine lv_dup C.1 C.2.1 dX12_init_150 rfl ?_
  refine lv_bipush C.1 C.2.1 (v := 23) dX12_init_151 (by decide) ?_
  refine lv_bipush C.1 C.2.1 (v := 117) dX12_init_153 (by decide) ?_
  refine nx_iast C hK hF 2 rfl (j := 23) rfl (by decide) (by decide) (rw3_s 23 (by decide +kernel)) dX12_init_155 (fun H locs hF => ?_)
  have hF : FW E A s.heap [o, t, (q2, .inl (E.2.1 0, 106, .inl (rw3 24)))] _ _ := hF
  show W p l e R s m args below meth c H locs cells slots Q (F0 m 156 ls (.ref q2 :: rest))
  refine lv_dup C.1 C.2.1 dX12_init_156 rfl ?_
  refine lv_bipush C.1 C.2.1 (v := 24) dX12_init_157 (by decide) ?_
  refine lv_bipush C.1 C.2.1 (v := 103) dX12_init_159 (by decide) ?_
  refine nx_iast C hK hF 2 rfl (j := 24) rfl (by decide) (by decide) (rw3_s 24 (by decide +kernel)) dX12_init_161 (fun H locs hF => ?_)
  have hF : FW E A s.heap [o, t, (q2, .inl (E.2.1 0, 106, .inl (rw3 25)))] _ _ := hF
  show W p l e R s m args below meth c H locs cells slots Q (F0 m 162 ls (.ref q2 :: rest))
  refine lv_dup C.1 C.2.1 dX12_init_162 rfl ?_
  refine lv_bipush C.1 C.2.1 (v := 25) dX12_init_163 (by decide) ?_
  refine lv_bipush C.1 C.2.1 (v := 104) dX12_init_165 (by decide) ?_
  refine nx_iast C hK hF 2 rfl (j := 25) rfl (by decide) (by decide) (rw3_s 25 (by decide +kernel)) dX12_init_167 (fun H locs hF => ?_)
  have hF : FW E A s.heap [o, t, (q2, .inl (E.2.1 0, 106, .inl (rw3 26)))] _ _ := hF
  show W p l e R s m args below meth c H locs cells slots Q (F0 m 168 ls (.ref q2 :: rest))
  refine lv_dup C.1 C.2.1 dX12_init_168 rfl ?_
  refine lv_bipush C.1 C.2.1 (v := 26) dX12_init_169 (by decide) ?_
  refine lv_bipush C.1 C.2.1 (v := 32) dX12_init_171 (by decide) ?_
  refine nx_iast C hK hF 2 rfl (j := 26) rfl (by decide) (by decide) (rw3_s 26 (by decide +kernel)) dX12_init_173 (fun H locs hF => ?_)
  have hF : FW E A s.heap [o, t, (q2, .inl (E.2.1 0, 106, .inl (rw3 27)))] _ _ := hF
  show W p l e R s m args below meth c H locs cells slots Q (F0 m 174 ls (.ref q2 :: rest))
  refine lv_dup C.1 C.2.1 dX12_init_174 rfl ?_
  refine lv_bipush C.1 C.2.1 (v := 27) dX12_init_175 (by decide) ?_
  refine lv_bipush C.1 C.2.1 (v := 115) dX12_init_177 (by decide) ?_
  refine nx_iast C hK hF 2 rfl (j := 27) rfl (by decide) (by decide) (rw3_s 27 (by decide +kernel)) dX12_init_179 (fun H locs hF => ?_)
  have hF : FW E A s.heap [o, t, (q2, .inl (E.2.1 0, 106, .inl (rw3 28)))] _ _ := hF
  show W p l e R s m args below meth c H locs cells slots Q (F0 m 180 ls (.ref q2 :: rest))
  refine lv_dup C.1 C.2.1 dX12_init_180 rfl ?_
  refine lv_bipush C.1 C.2.1 (v := 28) dX12_init_181 (by decide) ?_
  refine lv_bipush C.1 C.2.1 (v := 101) dX12_init_183 (by decide) ?_
  refine nx_iast C hK hF 2 rfl (j := 28) rfl (by decide) (by decide) (rw3_s 28 (by decide +kernel)) dX12_init_185 (fun H locs hF => ?_)
  have hF : FW E A s.heap [o, t, (q2, .inl (E.2.1 0, 106, .inl (rw3 29)))] _ _ := hF
  show W p l e R s m args below meth c H locs cells slots Q (F0 m 186 ls (.ref q2 :: rest))
  refine lv_dup C.1 C.2.1 dX12_init_186 rfl ?_
  refine lv_bipush C.1 C.2.1 (v := 29) dX12_init_187 (by decide) ?_
  refine lv_bipush C.1 C.2.1 (v := 101) dX12_init_189 (by decide) ?_
  refine nx_iast C hK hF 2 rfl (j := 29) rfl (by decide) (by decide) (rw3_s 29 (by decide +kernel)) dX12_init_191 (fun H locs hF => ?_)
  have hF : FW E A s.heap [o, t, (q2, .inl (E.2.1 0, 106, .inl (rw3 30)))] _ _ := hF
  show W p l e R s m args below meth c H locs cells slots Q (F0 m 192 ls (.ref q2 :: rest))
  refine lv_dup C.1 C.2.1 dX12_init_192 rfl ?_
  refine lv_bipush C.1 C.2.1 (v := 30) dX12_init_193 (by decide) ?_
  refine lv_bipush C.1 C.2.1 (v := 100) dX12_init_195 (by decide) ?_
  refine nx_iast C hK hF 2 rfl (j := 30) rfl (by decide) (by decide) (rw3_s 30 (by decide +kernel)) dX12_init_197 (fun H locs hF => ?_)
  have hF : FW E A s.heap [o, t, (q2, .inl (E.2.1 0, 106, .inl (rw3 31)))] _ _ := hF
  show W p l e R s m args below meth c H locs cells slots Q (F0 m 198 ls (.ref q2 :: rest))
  refine lv_dup C.1 C.2.1 dX12_init_198 rfl ?_
  refine lv_bipush C.1 C.2.1 (v := 31) dX12_init_199 (by decide) ?_
  refine lv_bipush C.1 C.2.1 (v := 32) dX12_init_201 (by decide) ?_
  refine nx_iast C hK hF 2 rfl (j := 31) rfl (by decide) (by decide) (rw3_s 31 (by decide +kernel)) dX12_init_203 (fun H locs hF => ?_)
  have hF : FW E A s.heap [o, t, (q2, .inl (E.2.1 0, 106, .inl (rw3 32)))] _ _ := hF
  show W p l e R s m args below meth c H locs cells slots Q (F0 m 204 ls (.ref q2 :: rest))
  refine lv_dup C.1 C.2.1 dX12_init_204 rfl ?_
  refine lv_bipush C.1 C.2.1 (v := 32) dX12_init_205 (by decide) ?_
  refine lv_bipush C.1 C.2.1 (v := 108) dX12_init_207 (by decide) ?_
  refine nx_iast C hK hF 2 rfl (j := 32) rfl (by decide) (by decide) (rw3_s 32 (by decide +kernel)) dX12_init_209 (fun H locs hF => ?_)
  have hF : FW E A s.heap [o, t, (q2, .inl (E.2.1 0, 106, .inl (rw3 33)))] _ _ := hF
  show W p l e R s m args below meth c H locs cells slots Q (F0 m 210 ls (.ref q2 :: rest))
  refine lv_dup C.1 C.2.1 dX12_init_210 rfl ?_
  refine lv_bipush C.1 C.2.1 (v := 33) dX12_init_211 (by decide) ?_
  refine lv_bipush C.1 C.2.1 (v := 97) dX12_init_213 (by decide) ?_
  refine nx_iast C hK hF 2 rfl (j := 33) rfl (by decide) (by decide) (rw3_s 33 (by decide +kernel)) dX12_init_215 (fun H locs hF => ?_)
  have hF : FW E A s.heap [o, t, (q2, .inl (E.2.1 0, 106, .inl (rw3 34)))] _ _ := hF
  show W p l e R s m args below meth c H locs cells slots Q (F0 m 216 ls (.ref q2 :: rest))
  refine lv_dup C.1 C.2.1 dX12_init_216 rfl ?_
  refine lv_bipush C.1 C.2.1 (v := 34) dX12_init_217 (by decide) ?_
  refine lv_bipush C.1 C.2.1 (v := 119) dX12_init_219 (by decide) ?_
  refine nx_iast C hK hF 2 rfl (j := 34) rfl (by decide) (by decide) (rw3_s 34 (by decide +kernel)) dX12_init_221 (fun H locs hF => ?_)
  have hF : FW E A s.heap [o, t, (q2, .inl (E.2.1 0, 106, .inl (rw3 35)))] _ _ := hF
  show W p l e R s m args below meth c H locs cells slots Q (F0 m 222 ls (.ref q2 :: rest))
  refine lv_dup C.1 C.2.1 dX12_init_222 rfl ?_
  refine lv_bipush C.1 C.2.1 (v := 35) dX12_init_223 (by decide) ?_
  refine lv_bipush C.1 C.2.1 (v := 32) dX12_init_225 (by decide) ?_
  refine nx_iast C hK hF 2 rfl (j := 35) rfl (by decide) (by decide) (rw3_s 35 (by decide +kernel)) dX12_init_227 (fun H locs hF => ?_)
  have hF : FW E A s.heap [o, t, (q2, .inl (E.2.1 0, 106, .inl (rw3 36)))] _ _ := hF
  show W p l e R s m args below meth c H locs cells slots Q (F0 m 228 ls (.ref q2 :: rest))
  exact kk H locs hF
set_option maxHeartbeats 4000000 in
set_option maxRecDepth 20000 in
theorem fl_b {p : Program} {l : Launch} {e : Env} {R : Room} {s : State} {m : MethodId} {args : Array Value} {below : List Frame} {meth : Method} {c : Code} {H : Heap} {locs : List Loc} {cells slots : Nat} {Q : State → Prop} {ls : Array Slot} {E : Ev} {A : Nat → Prop} {o t : Nat × va_E} {q2 : Nat} {rest : List Value} (C : CallFix p m c cX12_init 1 s args gtbl RX12) (hK : Kx E s) (hF : FW E A s.heap [o, t, (q2, .inl (E.2.1 0, 106, .inl (rw3 36)))] H locs)
    (kk : ∀ (H : Heap) (locs : List Loc), FW E A s.heap [o, t, (q2, .inl (E.2.1 0, 106, .inl (rw3 72)))] H locs → W p l e R s m args below meth c H locs cells slots Q (F0 m 444 ls (.ref q2 :: rest))) : W p l e R s m args below meth c H locs cells slots Q (F0 m 228 ls (.ref q2 :: rest)) := by
  refine lv_dup C.1 C.2.1 dX12_init_228 rfl ?_
  refine lv_bipush C.1 C.2.1 (v := 36) dX12_init_229 (by decide) ?_
  refine lv_bipush C.1 C.2.1 (v := 99) dX12_init_231 (by decide) ?_
  refine nx_iast C hK hF 2 rfl (j := 36) rfl (by decide) (by decide) (rw3_s 36 (by decide +kernel)) dX12_init_233 (fun H locs hF => ?_)
  have hF : FW E A s.heap [o, t, (q2, .inl (E.2.1 0, 106, .inl (rw3 37)))] _ _ := hF
  show W p l e R s m args below meth c H locs cells slots Q (F0 m 234 ls (.ref q2 :: rest))
  refine lv_dup C.1 C.2.1 dX12_init_234 rfl ?_
  refine lv_bipush C.1 C.2.1 (v := 37) dX12_init_235 (by decide) ?_
  refine lv_bipush C.1 C.2.1 (v := 108) dX12_init_237 (by decide) ?_
  refine nx_iast C hK hF 2 rfl (j := 37) rfl (by decide) (by decide) (rw3_s 37 (by decide +kernel)) dX12_init_239 (fun H locs hF => ?_)
  have hF : FW E A s.heap [o, t, (q2, .inl (E.2.1 0, 106, .inl (rw3 38)))] _ _ := hF
  show W p l e R s m args below meth c H locs cells slots Q (F0 m 240 ls (.ref q2 :: rest))
  refine lv_dup C.1 C.2.1 dX12_init_240 rfl ?_
  refine lv_bipush C.1 C.2.1 (v := 38) dX12_init_241 (by decide) ?_
  refine lv_bipush C.1 C.2.1 (v := 97) dX12_init_243 (by decide) ?_
  refine nx_iast C hK hF 2 rfl (j := 38) rfl (by decide) (by decide) (rw3_s 38 (by decide +kernel)) dX12_init_245 (fun H locs hF => ?_)
  have hF : FW E A s.heap [o, t, (q2, .inl (E.2.1 0, 106, .inl (rw3 39)))] _ _ := hF
  show W p l e R s m args below meth c H locs cells slots Q (F0 m 246 ls (.ref q2 :: rest))
  refine lv_dup C.1 C.2.1 dX12_init_246 rfl ?_
  refine lv_bipush C.1 C.2.1 (v := 39) dX12_init_247 (by decide) ?_
  refine lv_bipush C.1 C.2.1 (v := 112) dX12_init_249 (by decide) ?_
  refine nx_iast C hK hF 2 rfl (j := 39) rfl (by decide) (by decide) (rw3_s 39 (by decide +kernel)) dX12_init_251 (fun H locs hF => ?_)
  have hF : FW E A s.heap [o, t, (q2, .inl (E.2.1 0, 106, .inl (rw3 40)))] _ _ := hF
  show W p l e R s m args below meth c H locs cells slots Q (F0 m 252 ls (.ref q2 :: rest))
  refine lv_dup C.1 C.2.1 dX12_init_252 rfl ?_
  refine lv_bipush C.1 C.2.1 (v := 40) dX12_init_253 (by decide) ?_
  refine lv_bipush C.1 C.2.1 (v := 32) dX12_init_255 (by decide) ?_
  refine nx_iast C hK hF 2 rfl (j := 40) rfl (by decide) (by decide) (rw3_s 40 (by decide +kernel)) dX12_init_257 (fun H locs hF => ?_)
  have hF : FW E A s.heap [o, t, (q2, .inl (E.2.1 0, 106, .inl (rw3 41)))] _ _ := hF
  show W p l e R s m args below meth c H locs cells slots Q (F0 m 258 ls (.ref q2 :: rest))
  refine lv_dup C.1 C.2.1 dX12_init_258 rfl ?_
  refine lv_bipush C.1 C.2.1 (v := 41) dX12_init_259 (by decide) ?_
  refine lv_bipush C.1 C.2.1 (v := 116) dX12_init_261 (by decide) ?_
  refine nx_iast C hK hF 2 rfl (j := 41) rfl (by decide) (by decide) (rw3_s 41 (by decide +kernel)) dX12_init_263 (fun H locs hF => ?_)
  have hF : FW E A s.heap [o, t, (q2, .inl (E.2.1 0, 106, .inl (rw3 42)))] _ _ := hF
  show W p l e R s m args below meth c H locs cells slots Q (F0 m 264 ls (.ref q2 :: rest))
  refine lv_dup C.1 C.2.1 dX12_init_264 rfl ?_
  refine lv_bipush C.1 C.2.1 (v := 42) dX12_init_265 (by decide) ?_
  refine lv_bipush C.1 C.2.1 (v := 117) dX12_init_267 (by decide) ?_
  refine nx_iast C hK hF 2 rfl (j := 42) rfl (by decide) (by decide) (rw3_s 42 (by decide +kernel)) dX12_init_269 (fun H locs hF => ?_)
  have hF : FW E A s.heap [o, t, (q2, .inl (E.2.1 0, 106, .inl (rw3 43)))] _ _ := hF
  show W p l e R s m args below meth c H locs cells slots Q (F0 m 270 ls (.ref q2 :: rest))
  refine lv_dup C.1 C.2.1 dX12_init_270 rfl ?_
  refine lv_bipush C.1 C.2.1 (v := 43) dX12_init_271 (by decide) ?_
  refine lv_bipush C.1 C.2.1 (v := 114) dX12_init_273 (by decide) ?_
  refine nx_iast C hK hF 2 rfl (j := 43) rfl (by decide) (by decide) (rw3_s 43 (by decide +kernel)) dX12_init_275 (fun H locs hF => ?_)
  have hF : FW E A s.heap [o, t, (q2, .inl (E.2.1 0, 106, .inl (rw3 44)))] _ _ := hF
  show W p l e R s m args below meth c H locs cells slots Q (F0 m 276 ls (.ref q2 :: rest))
  refine lv_dup C.1 C.2.1 dX12_init_276 rfl ?_
  refine lv_bipush C.1 C.2.1 (v := 44) dX12_init_277 (by decide) ?_
  refine lv_bipush C.1 C.2.1 (v := 110) dX12_init_279 (by decide) ?_
  refine nx_iast C hK hF 2 rfl (j := 44) rfl (by decide) (by decide) (rw3_s 44 (by decide +kernel)) dX12_init_281 (fun H locs hF => ?_)
  have hF : FW E A s.heap [o, t, (q2, .inl (E.2.1 0, 106, .inl (rw3 45)))] _ _ := hF
  show W p l e R s m args below meth c H locs cells slots Q (F0 m 282 ls (.ref q2 :: rest))
  refine lv_dup C.1 C.2.1 dX12_init_282 rfl ?_
  refine lv_bipush C.1 C.2.1 (v := 45) dX12_init_283 (by decide) ?_
  refine lv_bipush C.1 C.2.1 (v := 32) dX12_init_285 (by decide) ?_
  refine nx_iast C hK hF 2 rfl (j := 45) rfl (by decide) (by decide) (rw3_s 45 (by decide +kernel)) dX12_init_287 (fun H locs hF => ?_)
  have hF : FW E A s.heap [o, t, (q2, .inl (E.2.1 0, 106, .inl (rw3 46)))] _ _ := hF
  show W p l e R s m args below meth c H locs cells slots Q (F0 m 288 ls (.ref q2 :: rest))
  refine lv_dup C.1 C.2.1 dX12_init_288 rfl ?_
  refine lv_bipush C.1 C.2.1 (v := 46) dX12_init_289 (by decide) ?_
  refine lv_bipush C.1 C.2.1 (v := 103) dX12_init_291 (by decide) ?_
  refine nx_iast C hK hF 2 rfl (j := 46) rfl (by decide) (by decide) (rw3_s 46 (by decide +kernel)) dX12_init_293 (fun H locs hF => ?_)
  have hF : FW E A s.heap [o, t, (q2, .inl (E.2.1 0, 106, .inl (rw3 47)))] _ _ := hF
  show W p l e R s m args below meth c H locs cells slots Q (F0 m 294 ls (.ref q2 :: rest))
  refine lv_dup C.1 C.2.1 dX12_init_294 rfl ?_
  refine lv_bipush C.1 C.2.1 (v := 47) dX12_init_295 (by decide) ?_
  refine lv_bipush C.1 C.2.1 (v := 114) dX12_init_297 (by decide) ?_
  refine nx_iast C hK hF 2 rfl (j := 47) rfl (by decide) (by decide) (rw3_s 47 (by decide +kernel)) dX12_init_299 (fun H locs hF => ?_)
  have hF : FW E A s.heap [o, t, (q2, .inl (E.2.1 0, 106, .inl (rw3 48)))] _ _ := hF
  show W p l e R s m args below meth c H locs cells slots Q (F0 m 300 ls (.ref q2 :: rest))
  refine lv_dup C.1 C.2.1 dX12_init_300 rfl ?_
  refine lv_bipush C.1 C.2.1 (v := 48) dX12_init_301 (by decide) ?_
  refine lv_bipush C.1 C.2.1 (v := 105) dX12_init_303 (by decide) ?_
  refine nx_iast C hK hF 2 rfl (j := 48) rfl (by decide) (by decide) (rw3_s 48 (by decide +kernel)) dX12_init_305 (fun H locs hF => ?_)
  have hF : FW E A s.heap [o, t, (q2, .inl (E.2.1 0, 106, .inl (rw3 49)))] _ _ := hF
  show W p l e R s m args below meth c H locs cells slots Q (F0 m 306 ls (.ref q2 :: rest))
  refine lv_dup C.1 C.2.1 dX12_init_306 rfl ?_
  refine lv_bipush C.1 C.2.1 (v := 49) dX12_init_307 (by decide) ?_
  refine lv_bipush C.1 C.2.1 (v := 116) dX12_init_309 (by decide) ?_
  refine nx_iast C hK hF 2 rfl (j := 49) rfl (by decide) (by decide) (rw3_s 49 (by decide +kernel)) dX12_init_311 (fun H locs hF => ?_)
  have hF : FW E A s.heap [o, t, (q2, .inl (E.2.1 0, 106, .inl (rw3 50)))] _ _ := hF
  show W p l e R s m args below meth c H locs cells slots Q (F0 m 312 ls (.ref q2 :: rest))
  refine lv_dup C.1 C.2.1 dX12_init_312 rfl ?_
  refine lv_bipush C.1 C.2.1 (v := 50) dX12_init_313 (by decide) ?_
  refine lv_bipush C.1 C.2.1 (v := 32) dX12_init_315 (by decide) ?_
  refine nx_iast C hK hF 2 rfl (j := 50) rfl (by decide) (by decide) (rw3_s 50 (by decide +kernel)) dX12_init_317 (fun H locs hF => ?_)
  have hF : FW E A s.heap [o, t, (q2, .inl (E.2.1 0, 106, .inl (rw3 51)))] _ _ := hF
  show W p l e R s m args below meth c H locs cells slots Q (F0 m 318 ls (.ref q2 :: rest))
  refine lv_dup C.1 C.2.1 dX12_init_318 rfl ?_
  refine lv_bipush C.1 C.2.1 (v := 51) dX12_init_319 (by decide) ?_
  refine lv_bipush C.1 C.2.1 (v := 97) dX12_init_321 (by decide) ?_
  refine nx_iast C hK hF 2 rfl (j := 51) rfl (by decide) (by decide) (rw3_s 51 (by decide +kernel)) dX12_init_323 (fun H locs hF => ?_)
  have hF : FW E A s.heap [o, t, (q2, .inl (E.2.1 0, 106, .inl (rw3 52)))] _ _ := hF
  show W p l e R s m args below meth c H locs cells slots Q (F0 m 324 ls (.ref q2 :: rest))
  refine lv_dup C.1 C.2.1 dX12_init_324 rfl ?_
  refine lv_bipush C.1 C.2.1 (v := 52) dX12_init_325 (by decide) ?_
  refine lv_bipush C.1 C.2.1 (v := 110) dX12_init_327 (by decide) ?_
  refine nx_iast C hK hF 2 rfl (j := 52) rfl (by decide) (by decide) (rw3_s 52 (by decide +kernel)) dX12_init_329 (fun H locs hF => ?_)
  have hF : FW E A s.heap [o, t, (q2, .inl (E.2.1 0, 106, .inl (rw3 53)))] _ _ := hF
  show W p l e R s m args below meth c H locs cells slots Q (F0 m 330 ls (.ref q2 :: rest))
  refine lv_dup C.1 C.2.1 dX12_init_330 rfl ?_
  refine lv_bipush C.1 C.2.1 (v := 53) dX12_init_331 (by decide) ?_
  refine lv_bipush C.1 C.2.1 (v := 100) dX12_init_333 (by decide) ?_
  refine nx_iast C hK hF 2 rfl (j := 53) rfl (by decide) (by decide) (rw3_s 53 (by decide +kernel)) dX12_init_335 (fun H locs hF => ?_)
  have hF : FW E A s.heap [o, t, (q2, .inl (E.2.1 0, 106, .inl (rw3 54)))] _ _ := hF
  show W p l e R s m args below meth c H locs cells slots Q (F0 m 336 ls (.ref q2 :: rest))
  refine lv_dup C.1 C.2.1 dX12_init_336 rfl ?_
  refine lv_bipush C.1 C.2.1 (v := 54) dX12_init_337 (by decide) ?_
  refine lv_bipush C.1 C.2.1 (v := 32) dX12_init_339 (by decide) ?_
  refine nx_iast C hK hF 2 rfl (j := 54) rfl (by decide) (by decide) (rw3_s 54 (by decide +kernel)) dX12_init_341 (fun H locs hF => ?_)
  have hF : FW E A s.heap [o, t, (q2, .inl (E.2.1 0, 106, .inl (rw3 55)))] _ _ := hF
  show W p l e R s m args below meth c H locs cells slots Q (F0 m 342 ls (.ref q2 :: rest))
  refine lv_dup C.1 C.2.1 dX12_init_342 rfl ?_
  refine lv_bipush C.1 C.2.1 (v := 55) dX12_init_343 (by decide) ?_
  refine lv_bipush C.1 C.2.1 (v := 111) dX12_init_345 (by decide) ?_
  refine nx_iast C hK hF 2 rfl (j := 55) rfl (by decide) (by decide) (rw3_s 55 (by decide +kernel)) dX12_init_347 (fun H locs hF => ?_)
  have hF : FW E A s.heap [o, t, (q2, .inl (E.2.1 0, 106, .inl (rw3 56)))] _ _ := hF
  show W p l e R s m args below meth c H locs cells slots Q (F0 m 348 ls (.ref q2 :: rest))
  refine lv_dup C.1 C.2.1 dX12_init_348 rfl ?_
  refine lv_bipush C.1 C.2.1 (v := 56) dX12_init_349 (by decide) ?_
  refine lv_bipush C.1 C.2.1 (v := 114) dX12_init_351 (by decide) ?_
  refine nx_iast C hK hF 2 rfl (j := 56) rfl (by decide) (by decide) (rw3_s 56 (by decide +kernel)) dX12_init_353 (fun H locs hF => ?_)
  have hF : FW E A s.heap [o, t, (q2, .inl (E.2.1 0, 106, .inl (rw3 57)))] _ _ := hF
  show W p l e R s m args below meth c H locs cells slots Q (F0 m 354 ls (.ref q2 :: rest))
  refine lv_dup C.1 C.2.1 dX12_init_354 rfl ?_
  refine lv_bipush C.1 C.2.1 (v := 57) dX12_init_355 (by decide) ?_
  refine lv_bipush C.1 C.2.1 (v := 32) dX12_init_357 (by decide) ?_
  refine nx_iast C hK hF 2 rfl (j := 57) rfl (by decide) (by decide) (rw3_s 57 (by decide +kernel)) dX12_init_359 (fun H locs hF => ?_)
  have hF : FW E A s.heap [o, t, (q2, .inl (E.2.1 0, 106, .inl (rw3 58)))] _ _ := hF
  show W p l e R s m args below meth c H locs cells slots Q (F0 m 360 ls (.ref q2 :: rest))
  refine lv_dup C.1 C.2.1 dX12_init_360 rfl ?_
  refine lv_bipush C.1 C.2.1 (v := 58) dX12_init_361 (by decide) ?_
  refine lv_bipush C.1 C.2.1 (v := 110) dX12_init_363 (by decide) ?_
  refine nx_iast C hK hF 2 rfl (j := 58) rfl (by decide) (by decide) (rw3_s 58 (by decide +kernel)) dX12_init_365 (fun H locs hF => ?_)
  have hF : FW E A s.heap [o, t, (q2, .inl (E.2.1 0, 106, .inl (rw3 59)))] _ _ := hF
  show W p l e R s m args below meth c H locs cells slots Q (F0 m 366 ls (.ref q2 :: rest))
  refine lv_dup C.1 C.2.1 dX12_init_366 rfl ?_
  refine lv_bipush C.1 C.2.1 (v := 59) dX12_init_367 (by decide) ?_
  refine lv_bipush C.1 C.2.1 (v := 111) dX12_init_369 (by decide) ?_
  refine nx_iast C hK hF 2 rfl (j := 59) rfl (by decide) (by decide) (rw3_s 59 (by decide +kernel)) dX12_init_371 (fun H locs hF => ?_)
  have hF : FW E A s.heap [o, t, (q2, .inl (E.2.1 0, 106, .inl (rw3 60)))] _ _ := hF
  show W p l e R s m args below meth c H locs cells slots Q (F0 m 372 ls (.ref q2 :: rest))
  refine lv_dup C.1 C.2.1 dX12_init_372 rfl ?_
  refine lv_bipush C.1 C.2.1 (v := 60) dX12_init_373 (by decide) ?_
  refine lv_bipush C.1 C.2.1 (v := 116) dX12_init_375 (by decide) ?_
  refine nx_iast C hK hF 2 rfl (j := 60) rfl (by decide) (by decide) (rw3_s 60 (by decide +kernel)) dX12_init_377 (fun H locs hF => ?_)
  have hF : FW E A s.heap [o, t, (q2, .inl (E.2.1 0, 106, .inl (rw3 61)))] _ _ := hF
  show W p l e R s m args below meth c H locs cells slots Q (F0 m 378 ls (.ref q2 :: rest))
  refine lv_dup C.1 C.2.1 dX12_init_378 rfl ?_
  refine lv_bipush C.1 C.2.1 (v := 61) dX12_init_379 (by decide) ?_
  refine lv_bipush C.1 C.2.1 (v := 32) dX12_init_381 (by decide) ?_
  refine nx_iast C hK hF 2 rfl (j := 61) rfl (by decide) (by decide) (rw3_s 61 (by decide +kernel)) dX12_init_383 (fun H locs hF => ?_)
  have hF : FW E A s.heap [o, t, (q2, .inl (E.2.1 0, 106, .inl (rw3 62)))] _ _ := hF
  show W p l e R s m args below meth c H locs cells slots Q (F0 m 384 ls (.ref q2 :: rest))
  refine lv_dup C.1 C.2.1 dX12_init_384 rfl ?_
  refine lv_bipush C.1 C.2.1 (v := 62) dX12_init_385 (by decide) ?_
  refine lv_bipush C.1 C.2.1 (v := 109) dX12_init_387 (by decide) ?_
  refine nx_iast C hK hF 2 rfl (j := 62) rfl (by decide) (by decide) (rw3_s 62 (by decide +kernel)) dX12_init_389 (fun H locs hF => ?_)
  have hF : FW E A s.heap [o, t, (q2, .inl (E.2.1 0, 106, .inl (rw3 63)))] _ _ := hF
  show W p l e R s m args below meth c H locs cells slots Q (F0 m 390 ls (.ref q2 :: rest))
  refine lv_dup C.1 C.2.1 dX12_init_390 rfl ?_
  refine lv_bipush C.1 C.2.1 (v := 63) dX12_init_391 (by decide) ?_
  refine lv_bipush C.1 C.2.1 (v := 111) dX12_init_393 (by decide) ?_
  refine nx_iast C hK hF 2 rfl (j := 63) rfl (by decide) (by decide) (rw3_s 63 (by decide +kernel)) dX12_init_395 (fun H locs hF => ?_)
  have hF : FW E A s.heap [o, t, (q2, .inl (E.2.1 0, 106, .inl (rw3 64)))] _ _ := hF
  show W p l e R s m args below meth c H locs cells slots Q (F0 m 396 ls (.ref q2 :: rest))
  refine lv_dup C.1 C.2.1 dX12_init_396 rfl ?_
  refine lv_bipush C.1 C.2.1 (v := 64) dX12_init_397 (by decide) ?_
  refine lv_bipush C.1 C.2.1 (v := 111) dX12_init_399 (by decide) ?_
  refine nx_iast C hK hF 2 rfl (j := 64) rfl (by decide) (by decide) (rw3_s 64 (by decide +kernel)) dX12_init_401 (fun H locs hF => ?_)
  have hF : FW E A s.heap [o, t, (q2, .inl (E.2.1 0, 106, .inl (rw3 65)))] _ _ := hF
  show W p l e R s m args below meth c H locs cells slots Q (F0 m 402 ls (.ref q2 :: rest))
  refine lv_dup C.1 C.2.1 dX12_init_402 rfl ?_
  refine lv_bipush C.1 C.2.1 (v := 65) dX12_init_403 (by decide) ?_
  refine lv_bipush C.1 C.2.1 (v := 100) dX12_init_405 (by decide) ?_
  refine nx_iast C hK hF 2 rfl (j := 65) rfl (by decide) (by decide) (rw3_s 65 (by decide +kernel)) dX12_init_407 (fun H locs hF => ?_)
  have hF : FW E A s.heap [o, t, (q2, .inl (E.2.1 0, 106, .inl (rw3 66)))] _ _ := hF
  show W p l e R s m args below meth c H locs cells slots Q (F0 m 408 ls (.ref q2 :: rest))
  refine lv_dup C.1 C.2.1 dX12_init_408 rfl ?_
  refine lv_bipush C.1 C.2.1 (v := 66) dX12_init_409 (by decide) ?_
  refine lv_bipush C.1 C.2.1 (v := 32) dX12_init_411 (by decide) ?_
  refine nx_iast C hK hF 2 rfl (j := 66) rfl (by decide) (by decide) (rw3_s 66 (by decide +kernel)) dX12_init_413 (fun H locs hF => ?_)
  have hF : FW E A s.heap [o, t, (q2, .inl (E.2.1 0, 106, .inl (rw3 67)))] _ _ := hF
  show W p l e R s m args below meth c H locs cells slots Q (F0 m 414 ls (.ref q2 :: rest))
  refine lv_dup C.1 C.2.1 dX12_init_414 rfl ?_
  refine lv_bipush C.1 C.2.1 (v := 67) dX12_init_415 (by decide) ?_
  refine lv_bipush C.1 C.2.1 (v := 116) dX12_init_417 (by decide) ?_
  refine nx_iast C hK hF 2 rfl (j := 67) rfl (by decide) (by decide) (rw3_s 67 (by decide +kernel)) dX12_init_419 (fun H locs hF => ?_)
  have hF : FW E A s.heap [o, t, (q2, .inl (E.2.1 0, 106, .inl (rw3 68)))] _ _ := hF
  show W p l e R s m args below meth c H locs cells slots Q (F0 m 420 ls (.ref q2 :: rest))
  refine lv_dup C.1 C.2.1 dX12_init_420 rfl ?_
  refine lv_bipush C.1 C.2.1 (v := 68) dX12_init_421 (by decide) ?_
  refine lv_bipush C.1 C.2.1 (v := 97) dX12_init_423 (by decide) ?_
  refine nx_iast C hK hF 2 rfl (j := 68) rfl (by decide) (by decide) (rw3_s 68 (by decide +kernel)) dX12_init_425 (fun H locs hF => ?_)
  have hF : FW E A s.heap [o, t, (q2, .inl (E.2.1 0, 106, .inl (rw3 69)))] _ _ := hF
  show W p l e R s m args below meth c H locs cells slots Q (F0 m 426 ls (.ref q2 :: rest))
  refine lv_dup C.1 C.2.1 dX12_init_426 rfl ?_
  refine lv_bipush C.1 C.2.1 (v := 69) dX12_init_427 (by decide) ?_
  refine lv_bipush C.1 C.2.1 (v := 115) dX12_init_429 (by decide) ?_
  refine nx_iast C hK hF 2 rfl (j := 69) rfl (by decide) (by decide) (rw3_s 69 (by decide +kernel)) dX12_init_431 (fun H locs hF => ?_)
  have hF : FW E A s.heap [o, t, (q2, .inl (E.2.1 0, 106, .inl (rw3 70)))] _ _ := hF
  show W p l e R s m args below meth c H locs cells slots Q (F0 m 432 ls (.ref q2 :: rest))
  refine lv_dup C.1 C.2.1 dX12_init_432 rfl ?_
  refine lv_bipush C.1 C.2.1 (v := 70) dX12_init_433 (by decide) ?_
  refine lv_bipush C.1 C.2.1 (v := 116) dX12_init_435 (by decide) ?_
  refine nx_iast C hK hF 2 rfl (j := 70) rfl (by decide) (by decide) (rw3_s 70 (by decide +kernel)) dX12_init_437 (fun H locs hF => ?_)
  have hF : FW E A s.heap [o, t, (q2, .inl (E.2.1 0, 106, .inl (rw3 71)))] _ _ := hF
  show W p l e R s m args below meth c H locs cells slots Q (F0 m 438 ls (.ref q2 :: rest))
  refine lv_dup C.1 C.2.1 dX12_init_438 rfl ?_
  refine lv_bipush C.1 C.2.1 (v := 71) dX12_init_439 (by decide) ?_
  refine lv_bipush C.1 C.2.1 (v := 101) dX12_init_441 (by decide) ?_
  refine nx_iast C hK hF 2 rfl (j := 71) rfl (by decide) (by decide) (rw3_s 71 (by decide +kernel)) dX12_init_443 (fun H locs hF => ?_)
  have hF : FW E A s.heap [o, t, (q2, .inl (E.2.1 0, 106, .inl (rw3 72)))] _ _ := hF
  show W p l e R s m args below meth c H locs cells slots Q (F0 m 444 ls (.ref q2 :: rest))
  exact kk H locs hF
set_option maxHeartbeats 4000000 in
set_option maxRecDepth 20000 in
theorem fl_c {p : Program} {l : Launch} {e : Env} {R : Room} {s : State} {m : MethodId} {args : Array Value} {below : List Frame} {meth : Method} {c : Code} {H : Heap} {locs : List Loc} {cells slots : Nat} {Q : State → Prop} {ls : Array Slot} {E : Ev} {A : Nat → Prop} {o t : Nat × va_E} {q2 : Nat} {rest : List Value} (C : CallFix p m c cX12_init 1 s args gtbl RX12) (hK : Kx E s) (hF : FW E A s.heap [o, t, (q2, .inl (E.2.1 0, 106, .inl (rw3 72)))] H locs)
    (kk : ∀ (H : Heap) (locs : List Loc), FW E A s.heap [o, t, (q2, .inl (E.2.1 0, 106, .inl (rw3 106)))] H locs → W p l e R s m args below meth c H locs cells slots Q (F0 m 648 ls (.ref q2 :: rest))) : W p l e R s m args below meth c H locs cells slots Q (F0 m 444 ls (.ref q2 :: rest)) := by
  refine lv_dup C.1 C.2.1 dX12_init_444 rfl ?_
  refine lv_bipush C.1 C.2.1 (v := 72) dX12_init_445 (by decide) ?_
  refine lv_bipush C.1 C.2.1 (v := 32) dX12_init_447 (by decide) ?_
  refine nx_iast C hK hF 2 rfl (j := 72) rfl (by decide) (by decide) (rw3_s 72 (by decide +kernel)) dX12_init_449 (fun H locs hF => ?_)
  have hF : FW E A s.heap [o, t, (q2, .inl (E.2.1 0, 106, .inl (rw3 73)))] _ _ := hF
  show W p l e R s m args below meth c H locs cells slots Q (F0 m 450 ls (.ref q2 :: rest))
  refine lv_dup C.1 C.2.1 dX12_init_450 rfl ?_
  refine lv_bipush C.1 C.2.1 (v := 73) dX12_init_451 (by decide) ?_
  refine lv_bipush C.1 C.2.1 (v := 104) dX12_init_453 (by decide) ?_
  refine nx_iast C hK hF 2 rfl (j := 73) rfl (by decide) (by decide) (rw3_s 73 (by decide +kernel)) dX12_init_455 (fun H locs hF => ?_)
  have hF : FW E A s.heap [o, t, (q2, .inl (E.2.1 0, 106, .inl (rw3 74)))] _ _ := hF
  show W p l e R s m args below meth c H locs cells slots Q (F0 m 456 ls (.ref q2 :: rest))
  refine lv_dup C.1 C.2.1 dX12_init_456 rfl ?_
  refine lv_bipush C.1 C.2.1 (v := 74) dX12_init_457 (by decide) ?_
  refine lv_bipush C.1 C.2.1 (v := 117) dX12_init_459 (by decide) ?_
  refine nx_iast C hK hF 2 rfl (j := 74) rfl (by decide) (by decide) (rw3_s 74 (by decide +kernel)) dX12_init_461 (fun H locs hF => ?_)
  have hF : FW E A s.heap [o, t, (q2, .inl (E.2.1 0, 106, .inl (rw3 75)))] _ _ := hF
  show W p l e R s m args below meth c H locs cells slots Q (F0 m 462 ls (.ref q2 :: rest))
  refine lv_dup C.1 C.2.1 dX12_init_462 rfl ?_
  refine lv_bipush C.1 C.2.1 (v := 75) dX12_init_463 (by decide) ?_
  refine lv_bipush C.1 C.2.1 (v := 110) dX12_init_465 (by decide) ?_
  refine nx_iast C hK hF 2 rfl (j := 75) rfl (by decide) (by decide) (rw3_s 75 (by decide +kernel)) dX12_init_467 (fun H locs hF => ?_)
  have hF : FW E A s.heap [o, t, (q2, .inl (E.2.1 0, 106, .inl (rw3 76)))] _ _ := hF
  show W p l e R s m args below meth c H locs cells slots Q (F0 m 468 ls (.ref q2 :: rest))
  refine lv_dup C.1 C.2.1 dX12_init_468 rfl ?_
  refine lv_bipush C.1 C.2.1 (v := 76) dX12_init_469 (by decide) ?_
  refine lv_bipush C.1 C.2.1 (v := 103) dX12_init_471 (by decide) ?_
  refine nx_iast C hK hF 2 rfl (j := 76) rfl (by decide) (by decide) (rw3_s 76 (by decide +kernel)) dX12_init_473 (fun H locs hF => ?_)
  have hF : FW E A s.heap [o, t, (q2, .inl (E.2.1 0, 106, .inl (rw3 77)))] _ _ := hF
  show W p l e R s m args below meth c H locs cells slots Q (F0 m 474 ls (.ref q2 :: rest))
  refine lv_dup C.1 C.2.1 dX12_init_474 rfl ?_
  refine lv_bipush C.1 C.2.1 (v := 77) dX12_init_475 (by decide) ?_
  refine lv_bipush C.1 C.2.1 (v := 101) dX12_init_477 (by decide) ?_
  refine nx_iast C hK hF 2 rfl (j := 77) rfl (by decide) (by decide) (rw3_s 77 (by decide +kernel)) dX12_init_479 (fun H locs hF => ?_)
  have hF : FW E A s.heap [o, t, (q2, .inl (E.2.1 0, 106, .inl (rw3 78)))] _ _ := hF
  show W p l e R s m args below meth c H locs cells slots Q (F0 m 480 ls (.ref q2 :: rest))
  refine lv_dup C.1 C.2.1 dX12_init_480 rfl ?_
  refine lv_bipush C.1 C.2.1 (v := 78) dX12_init_481 (by decide) ?_
  refine lv_bipush C.1 C.2.1 (v := 114) dX12_init_483 (by decide) ?_
  refine nx_iast C hK hF 2 rfl (j := 78) rfl (by decide) (by decide) (rw3_s 78 (by decide +kernel)) dX12_init_485 (fun H locs hF => ?_)
  have hF : FW E A s.heap [o, t, (q2, .inl (E.2.1 0, 106, .inl (rw3 79)))] _ _ := hF
  show W p l e R s m args below meth c H locs cells slots Q (F0 m 486 ls (.ref q2 :: rest))
  refine lv_dup C.1 C.2.1 dX12_init_486 rfl ?_
  refine lv_bipush C.1 C.2.1 (v := 79) dX12_init_487 (by decide) ?_
  refine lv_bipush C.1 C.2.1 (v := 32) dX12_init_489 (by decide) ?_
  refine nx_iast C hK hF 2 rfl (j := 79) rfl (by decide) (by decide) (rw3_s 79 (by decide +kernel)) dX12_init_491 (fun H locs hF => ?_)
  have hF : FW E A s.heap [o, t, (q2, .inl (E.2.1 0, 106, .inl (rw3 80)))] _ _ := hF
  show W p l e R s m args below meth c H locs cells slots Q (F0 m 492 ls (.ref q2 :: rest))
  refine lv_dup C.1 C.2.1 dX12_init_492 rfl ?_
  refine lv_bipush C.1 C.2.1 (v := 80) dX12_init_493 (by decide) ?_
  refine lv_bipush C.1 C.2.1 (v := 98) dX12_init_495 (by decide) ?_
  refine nx_iast C hK hF 2 rfl (j := 80) rfl (by decide) (by decide) (rw3_s 80 (by decide +kernel)) dX12_init_497 (fun H locs hF => ?_)
  have hF : FW E A s.heap [o, t, (q2, .inl (E.2.1 0, 106, .inl (rw3 81)))] _ _ := hF
  show W p l e R s m args below meth c H locs cells slots Q (F0 m 498 ls (.ref q2 :: rest))
  refine lv_dup C.1 C.2.1 dX12_init_498 rfl ?_
  refine lv_bipush C.1 C.2.1 (v := 81) dX12_init_499 (by decide) ?_
  refine lv_bipush C.1 C.2.1 (v := 101) dX12_init_501 (by decide) ?_
  refine nx_iast C hK hF 2 rfl (j := 81) rfl (by decide) (by decide) (rw3_s 81 (by decide +kernel)) dX12_init_503 (fun H locs hF => ?_)
  have hF : FW E A s.heap [o, t, (q2, .inl (E.2.1 0, 106, .inl (rw3 82)))] _ _ := hF
  show W p l e R s m args below meth c H locs cells slots Q (F0 m 504 ls (.ref q2 :: rest))
  refine lv_dup C.1 C.2.1 dX12_init_504 rfl ?_
  refine lv_bipush C.1 C.2.1 (v := 82) dX12_init_505 (by decide) ?_
  refine lv_bipush C.1 C.2.1 (v := 115) dX12_init_507 (by decide) ?_
  refine nx_iast C hK hF 2 rfl (j := 82) rfl (by decide) (by decide) (rw3_s 82 (by decide +kernel)) dX12_init_509 (fun H locs hF => ?_)
  have hF : FW E A s.heap [o, t, (q2, .inl (E.2.1 0, 106, .inl (rw3 83)))] _ _ := hF
  show W p l e R s m args below meth c H locs cells slots Q (F0 m 510 ls (.ref q2 :: rest))
  refine lv_dup C.1 C.2.1 dX12_init_510 rfl ?_
  refine lv_bipush C.1 C.2.1 (v := 83) dX12_init_511 (by decide) ?_
  refine lv_bipush C.1 C.2.1 (v := 105) dX12_init_513 (by decide) ?_
  refine nx_iast C hK hF 2 rfl (j := 83) rfl (by decide) (by decide) (rw3_s 83 (by decide +kernel)) dX12_init_515 (fun H locs hF => ?_)
  have hF : FW E A s.heap [o, t, (q2, .inl (E.2.1 0, 106, .inl (rw3 84)))] _ _ := hF
  show W p l e R s m args below meth c H locs cells slots Q (F0 m 516 ls (.ref q2 :: rest))
  refine lv_dup C.1 C.2.1 dX12_init_516 rfl ?_
  refine lv_bipush C.1 C.2.1 (v := 84) dX12_init_517 (by decide) ?_
  refine lv_bipush C.1 C.2.1 (v := 100) dX12_init_519 (by decide) ?_
  refine nx_iast C hK hF 2 rfl (j := 84) rfl (by decide) (by decide) (rw3_s 84 (by decide +kernel)) dX12_init_521 (fun H locs hF => ?_)
  have hF : FW E A s.heap [o, t, (q2, .inl (E.2.1 0, 106, .inl (rw3 85)))] _ _ := hF
  show W p l e R s m args below meth c H locs cells slots Q (F0 m 522 ls (.ref q2 :: rest))
  refine lv_dup C.1 C.2.1 dX12_init_522 rfl ?_
  refine lv_bipush C.1 C.2.1 (v := 85) dX12_init_523 (by decide) ?_
  refine lv_bipush C.1 C.2.1 (v := 101) dX12_init_525 (by decide) ?_
  refine nx_iast C hK hF 2 rfl (j := 85) rfl (by decide) (by decide) (rw3_s 85 (by decide +kernel)) dX12_init_527 (fun H locs hF => ?_)
  have hF : FW E A s.heap [o, t, (q2, .inl (E.2.1 0, 106, .inl (rw3 86)))] _ _ := hF
  show W p l e R s m args below meth c H locs cells slots Q (F0 m 528 ls (.ref q2 :: rest))
  refine lv_dup C.1 C.2.1 dX12_init_528 rfl ?_
  refine lv_bipush C.1 C.2.1 (v := 86) dX12_init_529 (by decide) ?_
  refine lv_bipush C.1 C.2.1 (v := 32) dX12_init_531 (by decide) ?_
  refine nx_iast C hK hF 2 rfl (j := 86) rfl (by decide) (by decide) (rw3_s 86 (by decide +kernel)) dX12_init_533 (fun H locs hF => ?_)
  have hF : FW E A s.heap [o, t, (q2, .inl (E.2.1 0, 106, .inl (rw3 87)))] _ _ := hF
  show W p l e R s m args below meth c H locs cells slots Q (F0 m 534 ls (.ref q2 :: rest))
  refine lv_dup C.1 C.2.1 dX12_init_534 rfl ?_
  refine lv_bipush C.1 C.2.1 (v := 87) dX12_init_535 (by decide) ?_
  refine lv_bipush C.1 C.2.1 (v := 115) dX12_init_537 (by decide) ?_
  refine nx_iast C hK hF 2 rfl (j := 87) rfl (by decide) (by decide) (rw3_s 87 (by decide +kernel)) dX12_init_539 (fun H locs hF => ?_)
  have hF : FW E A s.heap [o, t, (q2, .inl (E.2.1 0, 106, .inl (rw3 88)))] _ _ := hF
  show W p l e R s m args below meth c H locs cells slots Q (F0 m 540 ls (.ref q2 :: rest))
  refine lv_dup C.1 C.2.1 dX12_init_540 rfl ?_
  refine lv_bipush C.1 C.2.1 (v := 88) dX12_init_541 (by decide) ?_
  refine lv_bipush C.1 C.2.1 (v := 112) dX12_init_543 (by decide) ?_
  refine nx_iast C hK hF 2 rfl (j := 88) rfl (by decide) (by decide) (rw3_s 88 (by decide +kernel)) dX12_init_545 (fun H locs hF => ?_)
  have hF : FW E A s.heap [o, t, (q2, .inl (E.2.1 0, 106, .inl (rw3 89)))] _ _ := hF
  show W p l e R s m args below meth c H locs cells slots Q (F0 m 546 ls (.ref q2 :: rest))
  refine lv_dup C.1 C.2.1 dX12_init_546 rfl ?_
  refine lv_bipush C.1 C.2.1 (v := 89) dX12_init_547 (by decide) ?_
  refine lv_bipush C.1 C.2.1 (v := 101) dX12_init_549 (by decide) ?_
  refine nx_iast C hK hF 2 rfl (j := 89) rfl (by decide) (by decide) (rw3_s 89 (by decide +kernel)) dX12_init_551 (fun H locs hF => ?_)
  have hF : FW E A s.heap [o, t, (q2, .inl (E.2.1 0, 106, .inl (rw3 90)))] _ _ := hF
  show W p l e R s m args below meth c H locs cells slots Q (F0 m 552 ls (.ref q2 :: rest))
  refine lv_dup C.1 C.2.1 dX12_init_552 rfl ?_
  refine lv_bipush C.1 C.2.1 (v := 90) dX12_init_553 (by decide) ?_
  refine lv_bipush C.1 C.2.1 (v := 101) dX12_init_555 (by decide) ?_
  refine nx_iast C hK hF 2 rfl (j := 90) rfl (by decide) (by decide) (rw3_s 90 (by decide +kernel)) dX12_init_557 (fun H locs hF => ?_)
  have hF : FW E A s.heap [o, t, (q2, .inl (E.2.1 0, 106, .inl (rw3 91)))] _ _ := hF
  show W p l e R s m args below meth c H locs cells slots Q (F0 m 558 ls (.ref q2 :: rest))
  refine lv_dup C.1 C.2.1 dX12_init_558 rfl ?_
  refine lv_bipush C.1 C.2.1 (v := 91) dX12_init_559 (by decide) ?_
  refine lv_bipush C.1 C.2.1 (v := 100) dX12_init_561 (by decide) ?_
  refine nx_iast C hK hF 2 rfl (j := 91) rfl (by decide) (by decide) (rw3_s 91 (by decide +kernel)) dX12_init_563 (fun H locs hF => ?_)
  have hF : FW E A s.heap [o, t, (q2, .inl (E.2.1 0, 106, .inl (rw3 92)))] _ _ := hF
  show W p l e R s m args below meth c H locs cells slots Q (F0 m 564 ls (.ref q2 :: rest))
  refine lv_dup C.1 C.2.1 dX12_init_564 rfl ?_
  refine lv_bipush C.1 C.2.1 (v := 92) dX12_init_565 (by decide) ?_
  refine lv_bipush C.1 C.2.1 (v := 32) dX12_init_567 (by decide) ?_
  refine nx_iast C hK hF 2 rfl (j := 92) rfl (by decide) (by decide) (rw3_s 92 (by decide +kernel)) dX12_init_569 (fun H locs hF => ?_)
  have hF : FW E A s.heap [o, t, (q2, .inl (E.2.1 0, 106, .inl (rw3 93)))] _ _ := hF
  show W p l e R s m args below meth c H locs cells slots Q (F0 m 570 ls (.ref q2 :: rest))
  refine lv_dup C.1 C.2.1 dX12_init_570 rfl ?_
  refine lv_bipush C.1 C.2.1 (v := 93) dX12_init_571 (by decide) ?_
  refine lv_bipush C.1 C.2.1 (v := 116) dX12_init_573 (by decide) ?_
  refine nx_iast C hK hF 2 rfl (j := 93) rfl (by decide) (by decide) (rw3_s 93 (by decide +kernel)) dX12_init_575 (fun H locs hF => ?_)
  have hF : FW E A s.heap [o, t, (q2, .inl (E.2.1 0, 106, .inl (rw3 94)))] _ _ := hF
  show W p l e R s m args below meth c H locs cells slots Q (F0 m 576 ls (.ref q2 :: rest))
  refine lv_dup C.1 C.2.1 dX12_init_576 rfl ?_
  refine lv_bipush C.1 C.2.1 (v := 94) dX12_init_577 (by decide) ?_
  refine lv_bipush C.1 C.2.1 (v := 105) dX12_init_579 (by decide) ?_
  refine nx_iast C hK hF 2 rfl (j := 94) rfl (by decide) (by decide) (rw3_s 94 (by decide +kernel)) dX12_init_581 (fun H locs hF => ?_)
  have hF : FW E A s.heap [o, t, (q2, .inl (E.2.1 0, 106, .inl (rw3 95)))] _ _ := hF
  show W p l e R s m args below meth c H locs cells slots Q (F0 m 582 ls (.ref q2 :: rest))
  refine lv_dup C.1 C.2.1 dX12_init_582 rfl ?_
  refine lv_bipush C.1 C.2.1 (v := 95) dX12_init_583 (by decide) ?_
  refine lv_bipush C.1 C.2.1 (v := 114) dX12_init_585 (by decide) ?_
  refine nx_iast C hK hF 2 rfl (j := 95) rfl (by decide) (by decide) (rw3_s 95 (by decide +kernel)) dX12_init_587 (fun H locs hF => ?_)
  have hF : FW E A s.heap [o, t, (q2, .inl (E.2.1 0, 106, .inl (rw3 96)))] _ _ := hF
  show W p l e R s m args below meth c H locs cells slots Q (F0 m 588 ls (.ref q2 :: rest))
  refine lv_dup C.1 C.2.1 dX12_init_588 rfl ?_
  refine lv_bipush C.1 C.2.1 (v := 96) dX12_init_589 (by decide) ?_
  refine lv_bipush C.1 C.2.1 (v := 101) dX12_init_591 (by decide) ?_
  refine nx_iast C hK hF 2 rfl (j := 96) rfl (by decide) (by decide) (rw3_s 96 (by decide +kernel)) dX12_init_593 (fun H locs hF => ?_)
  have hF : FW E A s.heap [o, t, (q2, .inl (E.2.1 0, 106, .inl (rw3 97)))] _ _ := hF
  show W p l e R s m args below meth c H locs cells slots Q (F0 m 594 ls (.ref q2 :: rest))
  refine lv_dup C.1 C.2.1 dX12_init_594 rfl ?_
  refine lv_bipush C.1 C.2.1 (v := 97) dX12_init_595 (by decide) ?_
  refine lv_bipush C.1 C.2.1 (v := 100) dX12_init_597 (by decide) ?_
  refine nx_iast C hK hF 2 rfl (j := 97) rfl (by decide) (by decide) (rw3_s 97 (by decide +kernel)) dX12_init_599 (fun H locs hF => ?_)
  have hF : FW E A s.heap [o, t, (q2, .inl (E.2.1 0, 106, .inl (rw3 98)))] _ _ := hF
  show W p l e R s m args below meth c H locs cells slots Q (F0 m 600 ls (.ref q2 :: rest))
  refine lv_dup C.1 C.2.1 dX12_init_600 rfl ?_
  refine lv_bipush C.1 C.2.1 (v := 98) dX12_init_601 (by decide) ?_
  refine lv_bipush C.1 C.2.1 (v := 32) dX12_init_603 (by decide) ?_
  refine nx_iast C hK hF 2 rfl (j := 98) rfl (by decide) (by decide) (rw3_s 98 (by decide +kernel)) dX12_init_605 (fun H locs hF => ?_)
  have hF : FW E A s.heap [o, t, (q2, .inl (E.2.1 0, 106, .inl (rw3 99)))] _ _ := hF
  show W p l e R s m args below meth c H locs cells slots Q (F0 m 606 ls (.ref q2 :: rest))
  refine lv_dup C.1 C.2.1 dX12_init_606 rfl ?_
  refine lv_bipush C.1 C.2.1 (v := 99) dX12_init_607 (by decide) ?_
  refine lv_bipush C.1 C.2.1 (v := 109) dX12_init_609 (by decide) ?_
  refine nx_iast C hK hF 2 rfl (j := 99) rfl (by decide) (by decide) (rw3_s 99 (by decide +kernel)) dX12_init_611 (fun H locs hF => ?_)
  have hF : FW E A s.heap [o, t, (q2, .inl (E.2.1 0, 106, .inl (rw3 100)))] _ _ := hF
  show W p l e R s m args below meth c H locs cells slots Q (F0 m 612 ls (.ref q2 :: rest))
  refine lv_dup C.1 C.2.1 dX12_init_612 rfl ?_
  refine lv_bipush C.1 C.2.1 (v := 100) dX12_init_613 (by decide) ?_
  refine lv_bipush C.1 C.2.1 (v := 105) dX12_init_615 (by decide) ?_
  refine nx_iast C hK hF 2 rfl (j := 100) rfl (by decide) (by decide) (rw3_s 100 (by decide +kernel)) dX12_init_617 (fun H locs hF => ?_)
  have hF : FW E A s.heap [o, t, (q2, .inl (E.2.1 0, 106, .inl (rw3 101)))] _ _ := hF
  show W p l e R s m args below meth c H locs cells slots Q (F0 m 618 ls (.ref q2 :: rest))
  refine lv_dup C.1 C.2.1 dX12_init_618 rfl ?_
  refine lv_bipush C.1 C.2.1 (v := 101) dX12_init_619 (by decide) ?_
  refine lv_bipush C.1 C.2.1 (v := 110) dX12_init_621 (by decide) ?_
  refine nx_iast C hK hF 2 rfl (j := 101) rfl (by decide) (by decide) (rw3_s 101 (by decide +kernel)) dX12_init_623 (fun H locs hF => ?_)
  have hF : FW E A s.heap [o, t, (q2, .inl (E.2.1 0, 106, .inl (rw3 102)))] _ _ := hF
  show W p l e R s m args below meth c H locs cells slots Q (F0 m 624 ls (.ref q2 :: rest))
  refine lv_dup C.1 C.2.1 dX12_init_624 rfl ?_
  refine lv_bipush C.1 C.2.1 (v := 102) dX12_init_625 (by decide) ?_
  refine lv_bipush C.1 C.2.1 (v := 117) dX12_init_627 (by decide) ?_
  refine nx_iast C hK hF 2 rfl (j := 102) rfl (by decide) (by decide) (rw3_s 102 (by decide +kernel)) dX12_init_629 (fun H locs hF => ?_)
  have hF : FW E A s.heap [o, t, (q2, .inl (E.2.1 0, 106, .inl (rw3 103)))] _ _ := hF
  show W p l e R s m args below meth c H locs cells slots Q (F0 m 630 ls (.ref q2 :: rest))
  refine lv_dup C.1 C.2.1 dX12_init_630 rfl ?_
  refine lv_bipush C.1 C.2.1 (v := 103) dX12_init_631 (by decide) ?_
  refine lv_bipush C.1 C.2.1 (v := 116) dX12_init_633 (by decide) ?_
  refine nx_iast C hK hF 2 rfl (j := 103) rfl (by decide) (by decide) (rw3_s 103 (by decide +kernel)) dX12_init_635 (fun H locs hF => ?_)
  have hF : FW E A s.heap [o, t, (q2, .inl (E.2.1 0, 106, .inl (rw3 104)))] _ _ := hF
  show W p l e R s m args below meth c H locs cells slots Q (F0 m 636 ls (.ref q2 :: rest))
  refine lv_dup C.1 C.2.1 dX12_init_636 rfl ?_
  refine lv_bipush C.1 C.2.1 (v := 104) dX12_init_637 (by decide) ?_
  refine lv_bipush C.1 C.2.1 (v := 101) dX12_init_639 (by decide) ?_
  refine nx_iast C hK hF 2 rfl (j := 104) rfl (by decide) (by decide) (rw3_s 104 (by decide +kernel)) dX12_init_641 (fun H locs hF => ?_)
  have hF : FW E A s.heap [o, t, (q2, .inl (E.2.1 0, 106, .inl (rw3 105)))] _ _ := hF
  show W p l e R s m args below meth c H locs cells slots Q (F0 m 642 ls (.ref q2 :: rest))
  refine lv_dup C.1 C.2.1 dX12_init_642 rfl ?_
  refine lv_bipush C.1 C.2.1 (v := 105) dX12_init_643 (by decide) ?_
  refine lv_bipush C.1 C.2.1 (v := 32) dX12_init_645 (by decide) ?_
  refine nx_iast C hK hF 2 rfl (j := 105) rfl (by decide) (by decide) (rw3_s 105 (by decide +kernel)) dX12_init_647 (fun H locs hF => ?_)
  have hF : FW E A s.heap [o, t, (q2, .inl (E.2.1 0, 106, .inl (rw3 106)))] _ _ := hF
  show W p l e R s m args below meth c H locs cells slots Q (F0 m 648 ls (.ref q2 :: rest))
  exact kk H locs hF
