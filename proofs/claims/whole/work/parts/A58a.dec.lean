/-! decode rows of EggTraysModel() -/
theorem dX11_init_0 : decode cX11_init 0 = .ok (.aload_n 0, 1) := by decide +kernel
theorem dX11_init_1 : decode cX11_init 1 = .ok (.invokespecial 1, 3) := by decide +kernel
theorem dX11_init_4 : decode cX11_init 4 = .ok (.aload_n 0, 1) := by decide +kernel
theorem dX11_init_5 : decode cX11_init 5 = .ok (.sipush 800, 3) := by decide +kernel
theorem dX11_init_8 : decode cX11_init 8 = .ok (.newarray .int, 2) := by decide +kernel
theorem dX11_init_10 : decode cX11_init 10 = .ok (.putfield 7, 3) := by decide +kernel
theorem dX11_init_13 : decode cX11_init 13 = .ok (.aload_n 0, 1) := by decide +kernel
theorem dX11_init_14 : decode cX11_init 14 = .ok (.bipush 121, 2) := by decide +kernel
theorem dX11_init_16 : decode cX11_init 16 = .ok (.newarray .int, 2) := by decide +kernel
theorem dX11_init_18 : decode cX11_init 18 = .ok (.dup, 1) := by decide +kernel
theorem dX11_init_19 : decode cX11_init 19 = .ok (.iconst 0, 1) := by decide +kernel
theorem dX11_init_20 : decode cX11_init 20 = .ok (.bipush 115, 2) := by decide +kernel
theorem dX11_init_22 : decode cX11_init 22 = .ok (.iastore, 1) := by decide +kernel
theorem dX11_init_23 : decode cX11_init 23 = .ok (.dup, 1) := by decide +kernel
theorem dX11_init_24 : decode cX11_init 24 = .ok (.iconst 1, 1) := by decide +kernel
theorem dX11_init_25 : decode cX11_init 25 = .ok (.bipush 116, 2) := by decide +kernel
theorem dX11_init_27 : decode cX11_init 27 = .ok (.iastore, 1) := by decide +kernel
theorem dX11_init_28 : decode cX11_init 28 = .ok (.dup, 1) := by decide +kernel
theorem dX11_init_29 : decode cX11_init 29 = .ok (.iconst 2, 1) := by decide +kernel
theorem dX11_init_30 : decode cX11_init 30 = .ok (.bipush 97, 2) := by decide +kernel
theorem dX11_init_32 : decode cX11_init 32 = .ok (.iastore, 1) := by decide +kernel
theorem dX11_init_33 : decode cX11_init 33 = .ok (.dup, 1) := by decide +kernel
theorem dX11_init_34 : decode cX11_init 34 = .ok (.iconst 3, 1) := by decide +kernel
theorem dX11_init_35 : decode cX11_init 35 = .ok (.bipush 116, 2) := by decide +kernel
theorem dX11_init_37 : decode cX11_init 37 = .ok (.iastore, 1) := by decide +kernel
theorem dX11_init_38 : decode cX11_init 38 = .ok (.dup, 1) := by decide +kernel
theorem dX11_init_39 : decode cX11_init 39 = .ok (.iconst 4, 1) := by decide +kernel
theorem dX11_init_40 : decode cX11_init 40 = .ok (.bipush 105, 2) := by decide +kernel
theorem dX11_init_42 : decode cX11_init 42 = .ok (.iastore, 1) := by decide +kernel
theorem dX11_init_43 : decode cX11_init 43 = .ok (.dup, 1) := by decide +kernel
theorem dX11_init_44 : decode cX11_init 44 = .ok (.iconst 5, 1) := by decide +kernel
theorem dX11_init_45 : decode cX11_init 45 = .ok (.bipush 111, 2) := by decide +kernel
theorem dX11_init_47 : decode cX11_init 47 = .ok (.iastore, 1) := by decide +kernel
theorem dX11_init_48 : decode cX11_init 48 = .ok (.dup, 1) := by decide +kernel
theorem dX11_init_49 : decode cX11_init 49 = .ok (.bipush 6, 2) := by decide +kernel
theorem dX11_init_51 : decode cX11_init 51 = .ok (.bipush 110, 2) := by decide +kernel
theorem dX11_init_53 : decode cX11_init 53 = .ok (.iastore, 1) := by decide +kernel
theorem dX11_init_54 : decode cX11_init 54 = .ok (.dup, 1) := by decide +kernel
theorem dX11_init_55 : decode cX11_init 55 = .ok (.bipush 7, 2) := by decide +kernel
theorem dX11_init_57 : decode cX11_init 57 = .ok (.bipush 32, 2) := by decide +kernel
theorem dX11_init_59 : decode cX11_init 59 = .ok (.iastore, 1) := by decide +kernel
theorem dX11_init_60 : decode cX11_init 60 = .ok (.dup, 1) := by decide +kernel
theorem dX11_init_61 : decode cX11_init 61 = .ok (.bipush 8, 2) := by decide +kernel
theorem dX11_init_63 : decode cX11_init 63 = .ok (.bipush 103, 2) := by decide +kernel
theorem dX11_init_65 : decode cX11_init 65 = .ok (.iastore, 1) := by decide +kernel
theorem dX11_init_66 : decode cX11_init 66 = .ok (.dup, 1) := by decide +kernel
theorem dX11_init_67 : decode cX11_init 67 = .ok (.bipush 9, 2) := by decide +kernel
theorem dX11_init_69 : decode cX11_init 69 = .ok (.bipush 117, 2) := by decide +kernel
theorem dX11_init_71 : decode cX11_init 71 = .ok (.iastore, 1) := by decide +kernel
theorem dX11_init_72 : decode cX11_init 72 = .ok (.dup, 1) := by decide +kernel
theorem dX11_init_73 : decode cX11_init 73 = .ok (.bipush 10, 2) := by decide +kernel
theorem dX11_init_75 : decode cX11_init 75 = .ok (.bipush 101, 2) := by decide +kernel
theorem dX11_init_77 : decode cX11_init 77 = .ok (.iastore, 1) := by decide +kernel
theorem dX11_init_78 : decode cX11_init 78 = .ok (.dup, 1) := by decide +kernel
theorem dX11_init_79 : decode cX11_init 79 = .ok (.bipush 11, 2) := by decide +kernel
theorem dX11_init_81 : decode cX11_init 81 = .ok (.bipush 115, 2) := by decide +kernel
theorem dX11_init_83 : decode cX11_init 83 = .ok (.iastore, 1) := by decide +kernel
theorem dX11_init_84 : decode cX11_init 84 = .ok (.dup, 1) := by decide +kernel
theorem dX11_init_85 : decode cX11_init 85 = .ok (.bipush 12, 2) := by decide +kernel
theorem dX11_init_87 : decode cX11_init 87 = .ok (.bipush 116, 2) := by decide +kernel
theorem dX11_init_89 : decode cX11_init 89 = .ok (.iastore, 1) := by decide +kernel
theorem dX11_init_90 : decode cX11_init 90 = .ok (.dup, 1) := by decide +kernel
theorem dX11_init_91 : decode cX11_init 91 = .ok (.bipush 13, 2) := by decide +kernel
theorem dX11_init_93 : decode cX11_init 93 = .ok (.bipush 32, 2) := by decide +kernel
theorem dX11_init_95 : decode cX11_init 95 = .ok (.iastore, 1) := by decide +kernel
theorem dX11_init_96 : decode cX11_init 96 = .ok (.dup, 1) := by decide +kernel
theorem dX11_init_97 : decode cX11_init 97 = .ok (.bipush 14, 2) := by decide +kernel
theorem dX11_init_99 : decode cX11_init 99 = .ok (.bipush 112, 2) := by decide +kernel
theorem dX11_init_101 : decode cX11_init 101 = .ok (.iastore, 1) := by decide +kernel
theorem dX11_init_102 : decode cX11_init 102 = .ok (.dup, 1) := by decide +kernel
theorem dX11_init_103 : decode cX11_init 103 = .ok (.bipush 15, 2) := by decide +kernel
theorem dX11_init_105 : decode cX11_init 105 = .ok (.bipush 97, 2) := by decide +kernel
theorem dX11_init_107 : decode cX11_init 107 = .ok (.iastore, 1) := by decide +kernel
theorem dX11_init_108 : decode cX11_init 108 = .ok (.dup, 1) := by decide +kernel
theorem dX11_init_109 : decode cX11_init 109 = .ok (.bipush 16, 2) := by decide +kernel
theorem dX11_init_111 : decode cX11_init 111 = .ok (.bipush 115, 2) := by decide +kernel
theorem dX11_init_113 : decode cX11_init 113 = .ok (.iastore, 1) := by decide +kernel
theorem dX11_init_114 : decode cX11_init 114 = .ok (.dup, 1) := by decide +kernel
theorem dX11_init_115 : decode cX11_init 115 = .ok (.bipush 17, 2) := by decide +kernel
theorem dX11_init_117 : decode cX11_init 117 = .ok (.bipush 115, 2) := by decide +kernel
theorem dX11_init_119 : decode cX11_init 119 = .ok (.iastore, 1) := by decide +kernel
theorem dX11_init_120 : decode cX11_init 120 = .ok (.dup, 1) := by decide +kernel
theorem dX11_init_121 : decode cX11_init 121 = .ok (.bipush 18, 2) := by decide +kernel
theorem dX11_init_123 : decode cX11_init 123 = .ok (.bipush 32, 2) := by decide +kernel
theorem dX11_init_125 : decode cX11_init 125 = .ok (.iastore, 1) := by decide +kernel
theorem dX11_init_126 : decode cX11_init 126 = .ok (.dup, 1) := by decide +kernel
theorem dX11_init_127 : decode cX11_init 127 = .ok (.bipush 19, 2) := by decide +kernel
theorem dX11_init_129 : decode cX11_init 129 = .ok (.bipush 97, 2) := by decide +kernel
theorem dX11_init_131 : decode cX11_init 131 = .ok (.iastore, 1) := by decide +kernel
theorem dX11_init_132 : decode cX11_init 132 = .ok (.dup, 1) := by decide +kernel
theorem dX11_init_133 : decode cX11_init 133 = .ok (.bipush 20, 2) := by decide +kernel
theorem dX11_init_135 : decode cX11_init 135 = .ok (.bipush 103, 2) := by decide +kernel
theorem dX11_init_137 : decode cX11_init 137 = .ok (.iastore, 1) := by decide +kernel
theorem dX11_init_138 : decode cX11_init 138 = .ok (.dup, 1) := by decide +kernel
theorem dX11_init_139 : decode cX11_init 139 = .ok (.bipush 21, 2) := by decide +kernel
theorem dX11_init_141 : decode cX11_init 141 = .ok (.bipush 97, 2) := by decide +kernel
theorem dX11_init_143 : decode cX11_init 143 = .ok (.iastore, 1) := by decide +kernel
theorem dX11_init_144 : decode cX11_init 144 = .ok (.dup, 1) := by decide +kernel
theorem dX11_init_145 : decode cX11_init 145 = .ok (.bipush 22, 2) := by decide +kernel
theorem dX11_init_147 : decode cX11_init 147 = .ok (.bipush 105, 2) := by decide +kernel
theorem dX11_init_149 : decode cX11_init 149 = .ok (.iastore, 1) := by decide +kernel
theorem dX11_init_150 : decode cX11_init 150 = .ok (.dup, 1) := by decide +kernel
theorem dX11_init_151 : decode cX11_init 151 = .ok (.bipush 23, 2) := by decide +kernel
theorem dX11_init_153 : decode cX11_init 153 = .ok (.bipush 110, 2) := by decide +kernel
theorem dX11_init_155 : decode cX11_init 155 = .ok (.iastore, 1) := by decide +kernel
theorem dX11_init_156 : decode cX11_init 156 = .ok (.dup, 1) := by decide +kernel
theorem dX11_init_157 : decode cX11_init 157 = .ok (.bipush 24, 2) := by decide +kernel
theorem dX11_init_159 : decode cX11_init 159 = .ok (.bipush 32, 2) := by decide +kernel
theorem dX11_init_161 : decode cX11_init 161 = .ok (.iastore, 1) := by decide +kernel
theorem dX11_init_162 : decode cX11_init 162 = .ok (.dup, 1) := by decide +kernel
theorem dX11_init_163 : decode cX11_init 163 = .ok (.bipush 25, 2) := by decide +kernel
theorem dX11_init_165 : decode cX11_init 165 = .ok (.bipush 99, 2) := by decide +kernel
theorem dX11_init_167 : decode cX11_init 167 = .ok (.iastore, 1) := by decide +kernel
theorem dX11_init_168 : decode cX11_init 168 = .ok (.dup, 1) := by decide +kernel
theorem dX11_init_169 : decode cX11_init 169 = .ok (.bipush 26, 2) := by decide +kernel
theorem dX11_init_171 : decode cX11_init 171 = .ok (.bipush 108, 2) := by decide +kernel
theorem dX11_init_173 : decode cX11_init 173 = .ok (.iastore, 1) := by decide +kernel
theorem dX11_init_174 : decode cX11_init 174 = .ok (.dup, 1) := by decide +kernel
theorem dX11_init_175 : decode cX11_init 175 = .ok (.bipush 27, 2) := by decide +kernel
theorem dX11_init_177 : decode cX11_init 177 = .ok (.bipush 111, 2) := by decide +kernel
theorem dX11_init_179 : decode cX11_init 179 = .ok (.iastore, 1) := by decide +kernel
theorem dX11_init_180 : decode cX11_init 180 = .ok (.dup, 1) := by decide +kernel
theorem dX11_init_181 : decode cX11_init 181 = .ok (.bipush 28, 2) := by decide +kernel
theorem dX11_init_183 : decode cX11_init 183 = .ok (.bipush 115, 2) := by decide +kernel
theorem dX11_init_185 : decode cX11_init 185 = .ok (.iastore, 1) := by decide +kernel
theorem dX11_init_186 : decode cX11_init 186 = .ok (.dup, 1) := by decide +kernel
theorem dX11_init_187 : decode cX11_init 187 = .ok (.bipush 29, 2) := by decide +kernel
theorem dX11_init_189 : decode cX11_init 189 = .ok (.bipush 101, 2) := by decide +kernel
theorem dX11_init_191 : decode cX11_init 191 = .ok (.iastore, 1) := by decide +kernel
theorem dX11_init_192 : decode cX11_init 192 = .ok (.dup, 1) := by decide +kernel
theorem dX11_init_193 : decode cX11_init 193 = .ok (.bipush 30, 2) := by decide +kernel
theorem dX11_init_195 : decode cX11_init 195 = .ok (.bipush 32, 2) := by decide +kernel
theorem dX11_init_197 : decode cX11_init 197 = .ok (.iastore, 1) := by decide +kernel
theorem dX11_init_198 : decode cX11_init 198 = .ok (.dup, 1) := by decide +kernel
theorem dX11_init_199 : decode cX11_init 199 = .ok (.bipush 31, 2) := by decide +kernel
theorem dX11_init_201 : decode cX11_init 201 = .ok (.bipush 108, 2) := by decide +kernel
theorem dX11_init_203 : decode cX11_init 203 = .ok (.iastore, 1) := by decide +kernel
theorem dX11_init_204 : decode cX11_init 204 = .ok (.dup, 1) := by decide +kernel
theorem dX11_init_205 : decode cX11_init 205 = .ok (.bipush 32, 2) := by decide +kernel
theorem dX11_init_207 : decode cX11_init 207 = .ok (.bipush 97, 2) := by decide +kernel
theorem dX11_init_209 : decode cX11_init 209 = .ok (.iastore, 1) := by decide +kernel
theorem dX11_init_210 : decode cX11_init 210 = .ok (.dup, 1) := by decide +kernel
theorem dX11_init_211 : decode cX11_init 211 = .ok (.bipush 33, 2) := by decide +kernel
theorem dX11_init_213 : decode cX11_init 213 = .ok (.bipush 119, 2) := by decide +kernel
theorem dX11_init_215 : decode cX11_init 215 = .ok (.iastore, 1) := by decide +kernel
theorem dX11_init_216 : decode cX11_init 216 = .ok (.dup, 1) := by decide +kernel
theorem dX11_init_217 : decode cX11_init 217 = .ok (.bipush 34, 2) := by decide +kernel
theorem dX11_init_219 : decode cX11_init 219 = .ok (.bipush 32, 2) := by decide +kernel
theorem dX11_init_221 : decode cX11_init 221 = .ok (.iastore, 1) := by decide +kernel
theorem dX11_init_222 : decode cX11_init 222 = .ok (.dup, 1) := by decide +kernel
theorem dX11_init_223 : decode cX11_init 223 = .ok (.bipush 35, 2) := by decide +kernel
theorem dX11_init_225 : decode cX11_init 225 = .ok (.bipush 109, 2) := by decide +kernel
theorem dX11_init_227 : decode cX11_init 227 = .ok (.iastore, 1) := by decide +kernel
theorem dX11_init_228 : decode cX11_init 228 = .ok (.dup, 1) := by decide +kernel
theorem dX11_init_229 : decode cX11_init 229 = .ok (.bipush 36, 2) := by decide +kernel
theorem dX11_init_231 : decode cX11_init 231 = .ok (.bipush 97, 2) := by decide +kernel
theorem dX11_init_233 : decode cX11_init 233 = .ok (.iastore, 1) := by decide +kernel
theorem dX11_init_234 : decode cX11_init 234 = .ok (.dup, 1) := by decide +kernel
theorem dX11_init_235 : decode cX11_init 235 = .ok (.bipush 37, 2) := by decide +kernel
theorem dX11_init_237 : decode cX11_init 237 = .ok (.bipush 121, 2) := by decide +kernel
theorem dX11_init_239 : decode cX11_init 239 = .ok (.iastore, 1) := by decide +kernel
theorem dX11_init_240 : decode cX11_init 240 = .ok (.dup, 1) := by decide +kernel
theorem dX11_init_241 : decode cX11_init 241 = .ok (.bipush 38, 2) := by decide +kernel
theorem dX11_init_243 : decode cX11_init 243 = .ok (.bipush 32, 2) := by decide +kernel
theorem dX11_init_245 : decode cX11_init 245 = .ok (.iastore, 1) := by decide +kernel
theorem dX11_init_246 : decode cX11_init 246 = .ok (.dup, 1) := by decide +kernel
theorem dX11_init_247 : decode cX11_init 247 = .ok (.bipush 39, 2) := by decide +kernel
theorem dX11_init_249 : decode cX11_init 249 = .ok (.bipush 112, 2) := by decide +kernel
theorem dX11_init_251 : decode cX11_init 251 = .ok (.iastore, 1) := by decide +kernel
theorem dX11_init_252 : decode cX11_init 252 = .ok (.dup, 1) := by decide +kernel
theorem dX11_init_253 : decode cX11_init 253 = .ok (.bipush 40, 2) := by decide +kernel
theorem dX11_init_255 : decode cX11_init 255 = .ok (.bipush 97, 2) := by decide +kernel
theorem dX11_init_257 : decode cX11_init 257 = .ok (.iastore, 1) := by decide +kernel
theorem dX11_init_258 : decode cX11_init 258 = .ok (.dup, 1) := by decide +kernel
theorem dX11_init_259 : decode cX11_init 259 = .ok (.bipush 41, 2) := by decide +kernel
theorem dX11_init_261 : decode cX11_init 261 = .ok (.bipush 110, 2) := by decide +kernel
theorem dX11_init_263 : decode cX11_init 263 = .ok (.iastore, 1) := by decide +kernel
theorem dX11_init_264 : decode cX11_init 264 = .ok (.dup, 1) := by decide +kernel
theorem dX11_init_265 : decode cX11_init 265 = .ok (.bipush 42, 2) := by decide +kernel
theorem dX11_init_267 : decode cX11_init 267 = .ok (.bipush 32, 2) := by decide +kernel
theorem dX11_init_269 : decode cX11_init 269 = .ok (.iastore, 1) := by decide +kernel
theorem dX11_init_270 : decode cX11_init 270 = .ok (.dup, 1) := by decide +kernel
theorem dX11_init_271 : decode cX11_init 271 = .ok (.bipush 43, 2) := by decide +kernel
theorem dX11_init_273 : decode cX11_init 273 = .ok (.bipush 99, 2) := by decide +kernel
theorem dX11_init_275 : decode cX11_init 275 = .ok (.iastore, 1) := by decide +kernel
theorem dX11_init_276 : decode cX11_init 276 = .ok (.dup, 1) := by decide +kernel
theorem dX11_init_277 : decode cX11_init 277 = .ok (.bipush 44, 2) := by decide +kernel
theorem dX11_init_279 : decode cX11_init 279 = .ok (.bipush 111, 2) := by decide +kernel
theorem dX11_init_281 : decode cX11_init 281 = .ok (.iastore, 1) := by decide +kernel
theorem dX11_init_282 : decode cX11_init 282 = .ok (.dup, 1) := by decide +kernel
theorem dX11_init_283 : decode cX11_init 283 = .ok (.bipush 45, 2) := by decide +kernel
theorem dX11_init_285 : decode cX11_init 285 = .ok (.bipush 108, 2) := by decide +kernel
theorem dX11_init_287 : decode cX11_init 287 = .ok (.iastore, 1) := by decide +kernel
theorem dX11_init_288 : decode cX11_init 288 = .ok (.dup, 1) := by decide +kernel
theorem dX11_init_289 : decode cX11_init 289 = .ok (.bipush 46, 2) := by decide +kernel
theorem dX11_init_291 : decode cX11_init 291 = .ok (.bipush 100, 2) := by decide +kernel
theorem dX11_init_293 : decode cX11_init 293 = .ok (.iastore, 1) := by decide +kernel
theorem dX11_init_294 : decode cX11_init 294 = .ok (.dup, 1) := by decide +kernel
theorem dX11_init_295 : decode cX11_init 295 = .ok (.bipush 47, 2) := by decide +kernel
theorem dX11_init_297 : decode cX11_init 297 = .ok (.bipush 32, 2) := by decide +kernel
theorem dX11_init_299 : decode cX11_init 299 = .ok (.iastore, 1) := by decide +kernel
theorem dX11_init_300 : decode cX11_init 300 = .ok (.dup, 1) := by decide +kernel
theorem dX11_init_301 : decode cX11_init 301 = .ok (.bipush 48, 2) := by decide +kernel
theorem dX11_init_303 : decode cX11_init 303 = .ok (.bipush 119, 2) := by decide +kernel
theorem dX11_init_305 : decode cX11_init 305 = .ok (.iastore, 1) := by decide +kernel
theorem dX11_init_306 : decode cX11_init 306 = .ok (.dup, 1) := by decide +kernel
theorem dX11_init_307 : decode cX11_init 307 = .ok (.bipush 49, 2) := by decide +kernel
theorem dX11_init_309 : decode cX11_init 309 = .ok (.bipush 97, 2) := by decide +kernel
theorem dX11_init_311 : decode cX11_init 311 = .ok (.iastore, 1) := by decide +kernel
theorem dX11_init_312 : decode cX11_init 312 = .ok (.dup, 1) := by decide +kernel
theorem dX11_init_313 : decode cX11_init 313 = .ok (.bipush 50, 2) := by decide +kernel
theorem dX11_init_315 : decode cX11_init 315 = .ok (.bipush 110, 2) := by decide +kernel
theorem dX11_init_317 : decode cX11_init 317 = .ok (.iastore, 1) := by decide +kernel
theorem dX11_init_318 : decode cX11_init 318 = .ok (.dup, 1) := by decide +kernel
theorem dX11_init_319 : decode cX11_init 319 = .ok (.bipush 51, 2) := by decide +kernel
theorem dX11_init_321 : decode cX11_init 321 = .ok (.bipush 116, 2) := by decide +kernel
theorem dX11_init_323 : decode cX11_init 323 = .ok (.iastore, 1) := by decide +kernel
theorem dX11_init_324 : decode cX11_init 324 = .ok (.dup, 1) := by decide +kernel
theorem dX11_init_325 : decode cX11_init 325 = .ok (.bipush 52, 2) := by decide +kernel
theorem dX11_init_327 : decode cX11_init 327 = .ok (.bipush 115, 2) := by decide +kernel
theorem dX11_init_329 : decode cX11_init 329 = .ok (.iastore, 1) := by decide +kernel
theorem dX11_init_330 : decode cX11_init 330 = .ok (.dup, 1) := by decide +kernel
theorem dX11_init_331 : decode cX11_init 331 = .ok (.bipush 53, 2) := by decide +kernel
theorem dX11_init_333 : decode cX11_init 333 = .ok (.bipush 32, 2) := by decide +kernel
theorem dX11_init_335 : decode cX11_init 335 = .ok (.iastore, 1) := by decide +kernel
theorem dX11_init_336 : decode cX11_init 336 = .ok (.dup, 1) := by decide +kernel
theorem dX11_init_337 : decode cX11_init 337 = .ok (.bipush 54, 2) := by decide +kernel
theorem dX11_init_339 : decode cX11_init 339 = .ok (.bipush 104, 2) := by decide +kernel
theorem dX11_init_341 : decode cX11_init 341 = .ok (.iastore, 1) := by decide +kernel
theorem dX11_init_342 : decode cX11_init 342 = .ok (.dup, 1) := by decide +kernel
theorem dX11_init_343 : decode cX11_init 343 = .ok (.bipush 55, 2) := by decide +kernel
theorem dX11_init_345 : decode cX11_init 345 = .ok (.bipush 101, 2) := by decide +kernel
theorem dX11_init_347 : decode cX11_init 347 = .ok (.iastore, 1) := by decide +kernel
theorem dX11_init_348 : decode cX11_init 348 = .ok (.dup, 1) := by decide +kernel
theorem dX11_init_349 : decode cX11_init 349 = .ok (.bipush 56, 2) := by decide +kernel
theorem dX11_init_351 : decode cX11_init 351 = .ok (.bipush 97, 2) := by decide +kernel
theorem dX11_init_353 : decode cX11_init 353 = .ok (.iastore, 1) := by decide +kernel
theorem dX11_init_354 : decode cX11_init 354 = .ok (.dup, 1) := by decide +kernel
theorem dX11_init_355 : decode cX11_init 355 = .ok (.bipush 57, 2) := by decide +kernel
theorem dX11_init_357 : decode cX11_init 357 = .ok (.bipush 112, 2) := by decide +kernel
theorem dX11_init_359 : decode cX11_init 359 = .ok (.iastore, 1) := by decide +kernel
theorem dX11_init_360 : decode cX11_init 360 = .ok (.dup, 1) := by decide +kernel
theorem dX11_init_361 : decode cX11_init 361 = .ok (.bipush 58, 2) := by decide +kernel
theorem dX11_init_363 : decode cX11_init 363 = .ok (.bipush 32, 2) := by decide +kernel
theorem dX11_init_365 : decode cX11_init 365 = .ok (.iastore, 1) := by decide +kernel
theorem dX11_init_366 : decode cX11_init 366 = .ok (.dup, 1) := by decide +kernel
theorem dX11_init_367 : decode cX11_init 367 = .ok (.bipush 59, 2) := by decide +kernel
theorem dX11_init_369 : decode cX11_init 369 = .ok (.bipush 108, 2) := by decide +kernel
theorem dX11_init_371 : decode cX11_init 371 = .ok (.iastore, 1) := by decide +kernel
theorem dX11_init_372 : decode cX11_init 372 = .ok (.dup, 1) := by decide +kernel
theorem dX11_init_373 : decode cX11_init 373 = .ok (.bipush 60, 2) := by decide +kernel
theorem dX11_init_375 : decode cX11_init 375 = .ok (.bipush 101, 2) := by decide +kernel
theorem dX11_init_377 : decode cX11_init 377 = .ok (.iastore, 1) := by decide +kernel
theorem dX11_init_378 : decode cX11_init 378 = .ok (.dup, 1) := by decide +kernel
theorem dX11_init_379 : decode cX11_init 379 = .ok (.bipush 61, 2) := by decide +kernel
theorem dX11_init_381 : decode cX11_init 381 = .ok (.bipush 97, 2) := by decide +kernel
theorem dX11_init_383 : decode cX11_init 383 = .ok (.iastore, 1) := by decide +kernel
theorem dX11_init_384 : decode cX11_init 384 = .ok (.dup, 1) := by decide +kernel
theorem dX11_init_385 : decode cX11_init 385 = .ok (.bipush 62, 2) := by decide +kernel
theorem dX11_init_387 : decode cX11_init 387 = .ok (.bipush 118, 2) := by decide +kernel
theorem dX11_init_389 : decode cX11_init 389 = .ok (.iastore, 1) := by decide +kernel
theorem dX11_init_390 : decode cX11_init 390 = .ok (.dup, 1) := by decide +kernel
theorem dX11_init_391 : decode cX11_init 391 = .ok (.bipush 63, 2) := by decide +kernel
theorem dX11_init_393 : decode cX11_init 393 = .ok (.bipush 101, 2) := by decide +kernel
theorem dX11_init_395 : decode cX11_init 395 = .ok (.iastore, 1) := by decide +kernel
theorem dX11_init_396 : decode cX11_init 396 = .ok (.dup, 1) := by decide +kernel
theorem dX11_init_397 : decode cX11_init 397 = .ok (.bipush 64, 2) := by decide +kernel
theorem dX11_init_399 : decode cX11_init 399 = .ok (.bipush 32, 2) := by decide +kernel
theorem dX11_init_401 : decode cX11_init 401 = .ok (.iastore, 1) := by decide +kernel
theorem dX11_init_402 : decode cX11_init 402 = .ok (.dup, 1) := by decide +kernel
theorem dX11_init_403 : decode cX11_init 403 = .ok (.bipush 65, 2) := by decide +kernel
theorem dX11_init_405 : decode cX11_init 405 = .ok (.bipush 101, 2) := by decide +kernel
theorem dX11_init_407 : decode cX11_init 407 = .ok (.iastore, 1) := by decide +kernel
theorem dX11_init_408 : decode cX11_init 408 = .ok (.dup, 1) := by decide +kernel
theorem dX11_init_409 : decode cX11_init 409 = .ok (.bipush 66, 2) := by decide +kernel
theorem dX11_init_411 : decode cX11_init 411 = .ok (.bipush 97, 2) := by decide +kernel
theorem dX11_init_413 : decode cX11_init 413 = .ok (.iastore, 1) := by decide +kernel
theorem dX11_init_414 : decode cX11_init 414 = .ok (.dup, 1) := by decide +kernel
theorem dX11_init_415 : decode cX11_init 415 = .ok (.bipush 67, 2) := by decide +kernel
theorem dX11_init_417 : decode cX11_init 417 = .ok (.bipush 116, 2) := by decide +kernel
theorem dX11_init_419 : decode cX11_init 419 = .ok (.iastore, 1) := by decide +kernel
theorem dX11_init_420 : decode cX11_init 420 = .ok (.dup, 1) := by decide +kernel
theorem dX11_init_421 : decode cX11_init 421 = .ok (.bipush 68, 2) := by decide +kernel
theorem dX11_init_423 : decode cX11_init 423 = .ok (.bipush 115, 2) := by decide +kernel
theorem dX11_init_425 : decode cX11_init 425 = .ok (.iastore, 1) := by decide +kernel
theorem dX11_init_426 : decode cX11_init 426 = .ok (.dup, 1) := by decide +kernel
theorem dX11_init_427 : decode cX11_init 427 = .ok (.bipush 69, 2) := by decide +kernel
theorem dX11_init_429 : decode cX11_init 429 = .ok (.bipush 32, 2) := by decide +kernel
theorem dX11_init_431 : decode cX11_init 431 = .ok (.iastore, 1) := by decide +kernel
theorem dX11_init_432 : decode cX11_init 432 = .ok (.dup, 1) := by decide +kernel
theorem dX11_init_433 : decode cX11_init 433 = .ok (.bipush 70, 2) := by decide +kernel
theorem dX11_init_435 : decode cX11_init 435 = .ok (.bipush 97, 2) := by decide +kernel
theorem dX11_init_437 : decode cX11_init 437 = .ok (.iastore, 1) := by decide +kernel
theorem dX11_init_438 : decode cX11_init 438 = .ok (.dup, 1) := by decide +kernel
theorem dX11_init_439 : decode cX11_init 439 = .ok (.bipush 71, 2) := by decide +kernel
theorem dX11_init_441 : decode cX11_init 441 = .ok (.bipush 110, 2) := by decide +kernel
theorem dX11_init_443 : decode cX11_init 443 = .ok (.iastore, 1) := by decide +kernel
theorem dX11_init_444 : decode cX11_init 444 = .ok (.dup, 1) := by decide +kernel
theorem dX11_init_445 : decode cX11_init 445 = .ok (.bipush 72, 2) := by decide +kernel
theorem dX11_init_447 : decode cX11_init 447 = .ok (.bipush 100, 2) := by decide +kernel
theorem dX11_init_449 : decode cX11_init 449 = .ok (.iastore, 1) := by decide +kernel
theorem dX11_init_450 : decode cX11_init 450 = .ok (.dup, 1) := by decide +kernel
theorem dX11_init_451 : decode cX11_init 451 = .ok (.bipush 73, 2) := by decide +kernel
theorem dX11_init_453 : decode cX11_init 453 = .ok (.bipush 32, 2) := by decide +kernel
theorem dX11_init_455 : decode cX11_init 455 = .ok (.iastore, 1) := by decide +kernel
theorem dX11_init_456 : decode cX11_init 456 = .ok (.dup, 1) := by decide +kernel
theorem dX11_init_457 : decode cX11_init 457 = .ok (.bipush 74, 2) := by decide +kernel
theorem dX11_init_459 : decode cX11_init 459 = .ok (.bipush 111, 2) := by decide +kernel
theorem dX11_init_461 : decode cX11_init 461 = .ok (.iastore, 1) := by decide +kernel
theorem dX11_init_462 : decode cX11_init 462 = .ok (.dup, 1) := by decide +kernel
theorem dX11_init_463 : decode cX11_init 463 = .ok (.bipush 75, 2) := by decide +kernel
theorem dX11_init_465 : decode cX11_init 465 = .ok (.bipush 114, 2) := by decide +kernel
theorem dX11_init_467 : decode cX11_init 467 = .ok (.iastore, 1) := by decide +kernel
theorem dX11_init_468 : decode cX11_init 468 = .ok (.dup, 1) := by decide +kernel
theorem dX11_init_469 : decode cX11_init 469 = .ok (.bipush 76, 2) := by decide +kernel
theorem dX11_init_471 : decode cX11_init 471 = .ok (.bipush 32, 2) := by decide +kernel
