theorem dX13_init_0 : decode cX13_init 0 = .ok (.aload_n 0, 1) := by decide +kernel
theorem dX13_init_1 : decode cX13_init 1 = .ok (.invokespecial 1, 3) := by decide +kernel
theorem dX13_init_4 : decode cX13_init 4 = .ok (.aload_n 0, 1) := by decide +kernel
theorem dX13_init_5 : decode cX13_init 5 = .ok (.sipush 1600, 3) := by decide +kernel
theorem dX13_init_8 : decode cX13_init 8 = .ok (.newarray .int, 2) := by decide +kernel
theorem dX13_init_10 : decode cX13_init 10 = .ok (.putfield 7, 3) := by decide +kernel
theorem dX13_init_13 : decode cX13_init 13 = .ok (.aload_n 0, 1) := by decide +kernel
theorem dX13_init_14 : decode cX13_init 14 = .ok (.iconst (-1), 1) := by decide +kernel
theorem dX13_init_15 : decode cX13_init 15 = .ok (.putfield 13, 3) := by decide +kernel
theorem dX13_init_18 : decode cX13_init 18 = .ok (.aload_n 0, 1) := by decide +kernel
theorem dX13_init_19 : decode cX13_init 19 = .ok (.bipush 6, 2) := by decide +kernel
theorem dX13_init_21 : decode cX13_init 21 = .ok (.newarray .int, 2) := by decide +kernel
theorem dX13_init_23 : decode cX13_init 23 = .ok (.putfield 17, 3) := by decide +kernel
theorem dX13_init_26 : decode cX13_init 26 = .ok (.aload_n 0, 1) := by decide +kernel
theorem dX13_init_27 : decode cX13_init 27 = .ok (.iconst 4, 1) := by decide +kernel
theorem dX13_init_28 : decode cX13_init 28 = .ok (.newarray .char, 2) := by decide +kernel
theorem dX13_init_30 : decode cX13_init 30 = .ok (.dup, 1) := by decide +kernel
theorem dX13_init_31 : decode cX13_init 31 = .ok (.iconst 0, 1) := by decide +kernel
theorem dX13_init_32 : decode cX13_init 32 = .ok (.bipush 108, 2) := by decide +kernel
theorem dX13_init_34 : decode cX13_init 34 = .ok (.castore, 1) := by decide +kernel
theorem dX13_init_35 : decode cX13_init 35 = .ok (.dup, 1) := by decide +kernel
theorem dX13_init_36 : decode cX13_init 36 = .ok (.iconst 1, 1) := by decide +kernel
theorem dX13_init_37 : decode cX13_init 37 = .ok (.bipush 97, 2) := by decide +kernel
theorem dX13_init_39 : decode cX13_init 39 = .ok (.castore, 1) := by decide +kernel
theorem dX13_init_40 : decode cX13_init 40 = .ok (.dup, 1) := by decide +kernel
theorem dX13_init_41 : decode cX13_init 41 = .ok (.iconst 2, 1) := by decide +kernel
theorem dX13_init_42 : decode cX13_init 42 = .ok (.bipush 110, 2) := by decide +kernel
theorem dX13_init_44 : decode cX13_init 44 = .ok (.castore, 1) := by decide +kernel
theorem dX13_init_45 : decode cX13_init 45 = .ok (.dup, 1) := by decide +kernel
theorem dX13_init_46 : decode cX13_init 46 = .ok (.iconst 3, 1) := by decide +kernel
theorem dX13_init_47 : decode cX13_init 47 = .ok (.bipush 100, 2) := by decide +kernel
theorem dX13_init_49 : decode cX13_init 49 = .ok (.castore, 1) := by decide +kernel
theorem dX13_init_50 : decode cX13_init 50 = .ok (.putfield 20, 3) := by decide +kernel
theorem dX13_init_53 : decode cX13_init 53 = .ok (.aload_n 0, 1) := by decide +kernel
theorem dX13_init_54 : decode cX13_init 54 = .ok (.iconst 2, 1) := by decide +kernel
theorem dX13_init_55 : decode cX13_init 55 = .ok (.newarray .char, 2) := by decide +kernel
theorem dX13_init_57 : decode cX13_init 57 = .ok (.dup, 1) := by decide +kernel
theorem dX13_init_58 : decode cX13_init 58 = .ok (.iconst 0, 1) := by decide +kernel
theorem dX13_init_59 : decode cX13_init 59 = .ok (.bipush 98, 2) := by decide +kernel
theorem dX13_init_61 : decode cX13_init 61 = .ok (.castore, 1) := by decide +kernel
theorem dX13_init_62 : decode cX13_init 62 = .ok (.dup, 1) := by decide +kernel
theorem dX13_init_63 : decode cX13_init 63 = .ok (.iconst 1, 1) := by decide +kernel
theorem dX13_init_64 : decode cX13_init 64 = .ok (.bipush 121, 2) := by decide +kernel
theorem dX13_init_66 : decode cX13_init 66 = .ok (.castore, 1) := by decide +kernel
theorem dX13_init_67 : decode cX13_init 67 = .ok (.putfield 24, 3) := by decide +kernel
theorem dX13_init_70 : decode cX13_init 70 = .ok (.aload_n 0, 1) := by decide +kernel
theorem dX13_init_71 : decode cX13_init 71 = .ok (.iconst 4, 1) := by decide +kernel
theorem dX13_init_72 : decode cX13_init 72 = .ok (.newarray .char, 2) := by decide +kernel
theorem dX13_init_74 : decode cX13_init 74 = .ok (.dup, 1) := by decide +kernel
theorem dX13_init_75 : decode cX13_init 75 = .ok (.iconst 0, 1) := by decide +kernel
theorem dX13_init_76 : decode cX13_init 76 = .ok (.bipush 104, 2) := by decide +kernel
theorem dX13_init_78 : decode cX13_init 78 = .ok (.castore, 1) := by decide +kernel
theorem dX13_init_79 : decode cX13_init 79 = .ok (.dup, 1) := by decide +kernel
theorem dX13_init_80 : decode cX13_init 80 = .ok (.iconst 1, 1) := by decide +kernel
theorem dX13_init_81 : decode cX13_init 81 = .ok (.bipush 117, 2) := by decide +kernel
theorem dX13_init_83 : decode cX13_init 83 = .ok (.castore, 1) := by decide +kernel
theorem dX13_init_84 : decode cX13_init 84 = .ok (.dup, 1) := by decide +kernel
theorem dX13_init_85 : decode cX13_init 85 = .ok (.iconst 2, 1) := by decide +kernel
theorem dX13_init_86 : decode cX13_init 86 = .ok (.bipush 110, 2) := by decide +kernel
theorem dX13_init_88 : decode cX13_init 88 = .ok (.castore, 1) := by decide +kernel
theorem dX13_init_89 : decode cX13_init 89 = .ok (.dup, 1) := by decide +kernel
theorem dX13_init_90 : decode cX13_init 90 = .ok (.iconst 3, 1) := by decide +kernel
theorem dX13_init_91 : decode cX13_init 91 = .ok (.bipush 116, 2) := by decide +kernel
theorem dX13_init_93 : decode cX13_init 93 = .ok (.castore, 1) := by decide +kernel
theorem dX13_init_94 : decode cX13_init 94 = .ok (.putfield 27, 3) := by decide +kernel
theorem dX13_init_97 : decode cX13_init 97 = .ok (.aload_n 0, 1) := by decide +kernel
theorem dX13_init_98 : decode cX13_init 98 = .ok (.bipush 6, 2) := by decide +kernel
theorem dX13_init_100 : decode cX13_init 100 = .ok (.newarray .char, 2) := by decide +kernel
theorem dX13_init_102 : decode cX13_init 102 = .ok (.dup, 1) := by decide +kernel
theorem dX13_init_103 : decode cX13_init 103 = .ok (.iconst 0, 1) := by decide +kernel
theorem dX13_init_104 : decode cX13_init 104 = .ok (.bipush 99, 2) := by decide +kernel
theorem dX13_init_106 : decode cX13_init 106 = .ok (.castore, 1) := by decide +kernel
theorem dX13_init_107 : decode cX13_init 107 = .ok (.dup, 1) := by decide +kernel
theorem dX13_init_108 : decode cX13_init 108 = .ok (.iconst 1, 1) := by decide +kernel
theorem dX13_init_109 : decode cX13_init 109 = .ok (.bipush 104, 2) := by decide +kernel
theorem dX13_init_111 : decode cX13_init 111 = .ok (.castore, 1) := by decide +kernel
theorem dX13_init_112 : decode cX13_init 112 = .ok (.dup, 1) := by decide +kernel
theorem dX13_init_113 : decode cX13_init 113 = .ok (.iconst 2, 1) := by decide +kernel
theorem dX13_init_114 : decode cX13_init 114 = .ok (.bipush 97, 2) := by decide +kernel
theorem dX13_init_116 : decode cX13_init 116 = .ok (.castore, 1) := by decide +kernel
theorem dX13_init_117 : decode cX13_init 117 = .ok (.dup, 1) := by decide +kernel
theorem dX13_init_118 : decode cX13_init 118 = .ok (.iconst 3, 1) := by decide +kernel
theorem dX13_init_119 : decode cX13_init 119 = .ok (.bipush 112, 2) := by decide +kernel
theorem dX13_init_121 : decode cX13_init 121 = .ok (.castore, 1) := by decide +kernel
theorem dX13_init_122 : decode cX13_init 122 = .ok (.dup, 1) := by decide +kernel
theorem dX13_init_123 : decode cX13_init 123 = .ok (.iconst 4, 1) := by decide +kernel
theorem dX13_init_124 : decode cX13_init 124 = .ok (.bipush 101, 2) := by decide +kernel
theorem dX13_init_126 : decode cX13_init 126 = .ok (.castore, 1) := by decide +kernel
theorem dX13_init_127 : decode cX13_init 127 = .ok (.dup, 1) := by decide +kernel
theorem dX13_init_128 : decode cX13_init 128 = .ok (.iconst 5, 1) := by decide +kernel
theorem dX13_init_129 : decode cX13_init 129 = .ok (.bipush 108, 2) := by decide +kernel
theorem dX13_init_131 : decode cX13_init 131 = .ok (.castore, 1) := by decide +kernel
theorem dX13_init_132 : decode cX13_init 132 = .ok (.putfield 30, 3) := by decide +kernel
theorem dX13_init_135 : decode cX13_init 135 = .ok (.aload_n 0, 1) := by decide +kernel
theorem dX13_init_136 : decode cX13_init 136 = .ok (.iconst 4, 1) := by decide +kernel
theorem dX13_init_137 : decode cX13_init 137 = .ok (.newarray .char, 2) := by decide +kernel
theorem dX13_init_139 : decode cX13_init 139 = .ok (.dup, 1) := by decide +kernel
theorem dX13_init_140 : decode cX13_init 140 = .ok (.iconst 0, 1) := by decide +kernel
theorem dX13_init_141 : decode cX13_init 141 = .ok (.bipush 98, 2) := by decide +kernel
theorem dX13_init_143 : decode cX13_init 143 = .ok (.castore, 1) := by decide +kernel
theorem dX13_init_144 : decode cX13_init 144 = .ok (.dup, 1) := by decide +kernel
theorem dX13_init_145 : decode cX13_init 145 = .ok (.iconst 1, 1) := by decide +kernel
theorem dX13_init_146 : decode cX13_init 146 = .ok (.bipush 101, 2) := by decide +kernel
theorem dX13_init_148 : decode cX13_init 148 = .ok (.castore, 1) := by decide +kernel
theorem dX13_init_149 : decode cX13_init 149 = .ok (.dup, 1) := by decide +kernel
theorem dX13_init_150 : decode cX13_init 150 = .ok (.iconst 2, 1) := by decide +kernel
theorem dX13_init_151 : decode cX13_init 151 = .ok (.bipush 108, 2) := by decide +kernel
theorem dX13_init_153 : decode cX13_init 153 = .ok (.castore, 1) := by decide +kernel
theorem dX13_init_154 : decode cX13_init 154 = .ok (.dup, 1) := by decide +kernel
theorem dX13_init_155 : decode cX13_init 155 = .ok (.iconst 3, 1) := by decide +kernel
theorem dX13_init_156 : decode cX13_init 156 = .ok (.bipush 108, 2) := by decide +kernel
theorem dX13_init_158 : decode cX13_init 158 = .ok (.castore, 1) := by decide +kernel
theorem dX13_init_159 : decode cX13_init 159 = .ok (.putfield 33, 3) := by decide +kernel
theorem dX13_init_162 : decode cX13_init 162 = .ok (.aload_n 0, 1) := by decide +kernel
theorem dX13_init_163 : decode cX13_init 163 = .ok (.iconst 2, 1) := by decide +kernel
theorem dX13_init_164 : decode cX13_init 164 = .ok (.newarray .char, 2) := by decide +kernel
theorem dX13_init_166 : decode cX13_init 166 = .ok (.dup, 1) := by decide +kernel
theorem dX13_init_167 : decode cX13_init 167 = .ok (.iconst 0, 1) := by decide +kernel
theorem dX13_init_168 : decode cX13_init 168 = .ok (.bipush 97, 2) := by decide +kernel
theorem dX13_init_170 : decode cX13_init 170 = .ok (.castore, 1) := by decide +kernel
theorem dX13_init_171 : decode cX13_init 171 = .ok (.dup, 1) := by decide +kernel
theorem dX13_init_172 : decode cX13_init 172 = .ok (.iconst 1, 1) := by decide +kernel
theorem dX13_init_173 : decode cX13_init 173 = .ok (.bipush 116, 2) := by decide +kernel
theorem dX13_init_175 : decode cX13_init 175 = .ok (.castore, 1) := by decide +kernel
theorem dX13_init_176 : decode cX13_init 176 = .ok (.putfield 36, 3) := by decide +kernel
theorem dX13_init_179 : decode cX13_init 179 = .ok (.aload_n 0, 1) := by decide +kernel
theorem dX13_init_180 : decode cX13_init 180 = .ok (.iconst 4, 1) := by decide +kernel
theorem dX13_init_181 : decode cX13_init 181 = .ok (.newarray .char, 2) := by decide +kernel
theorem dX13_init_183 : decode cX13_init 183 = .ok (.dup, 1) := by decide +kernel
theorem dX13_init_184 : decode cX13_init 184 = .ok (.iconst 0, 1) := by decide +kernel
theorem dX13_init_185 : decode cX13_init 185 = .ok (.bipush 114, 2) := by decide +kernel
theorem dX13_init_187 : decode cX13_init 187 = .ok (.castore, 1) := by decide +kernel
theorem dX13_init_188 : decode cX13_init 188 = .ok (.dup, 1) := by decide +kernel
theorem dX13_init_189 : decode cX13_init 189 = .ok (.iconst 1, 1) := by decide +kernel
theorem dX13_init_190 : decode cX13_init 190 = .ok (.bipush 111, 2) := by decide +kernel
theorem dX13_init_192 : decode cX13_init 192 = .ok (.castore, 1) := by decide +kernel
theorem dX13_init_193 : decode cX13_init 193 = .ok (.dup, 1) := by decide +kernel
theorem dX13_init_194 : decode cX13_init 194 = .ok (.iconst 2, 1) := by decide +kernel
theorem dX13_init_195 : decode cX13_init 195 = .ok (.bipush 112, 2) := by decide +kernel
theorem dX13_init_197 : decode cX13_init 197 = .ok (.castore, 1) := by decide +kernel
theorem dX13_init_198 : decode cX13_init 198 = .ok (.dup, 1) := by decide +kernel
theorem dX13_init_199 : decode cX13_init 199 = .ok (.iconst 3, 1) := by decide +kernel
theorem dX13_init_200 : decode cX13_init 200 = .ok (.bipush 101, 2) := by decide +kernel
theorem dX13_init_202 : decode cX13_init 202 = .ok (.castore, 1) := by decide +kernel
theorem dX13_init_203 : decode cX13_init 203 = .ok (.putfield 39, 3) := by decide +kernel
theorem dX13_init_206 : decode cX13_init 206 = .ok (.aload_n 0, 1) := by decide +kernel
theorem dX13_init_207 : decode cX13_init 207 = .ok (.bipush 6, 2) := by decide +kernel
theorem dX13_init_209 : decode cX13_init 209 = .ok (.newarray .char, 2) := by decide +kernel
theorem dX13_init_211 : decode cX13_init 211 = .ok (.dup, 1) := by decide +kernel
theorem dX13_init_212 : decode cX13_init 212 = .ok (.iconst 0, 1) := by decide +kernel
theorem dX13_init_213 : decode cX13_init 213 = .ok (.bipush 119, 2) := by decide +kernel
theorem dX13_init_215 : decode cX13_init 215 = .ok (.castore, 1) := by decide +kernel
theorem dX13_init_216 : decode cX13_init 216 = .ok (.dup, 1) := by decide +kernel
theorem dX13_init_217 : decode cX13_init 217 = .ok (.iconst 1, 1) := by decide +kernel
theorem dX13_init_218 : decode cX13_init 218 = .ok (.bipush 97, 2) := by decide +kernel
theorem dX13_init_220 : decode cX13_init 220 = .ok (.castore, 1) := by decide +kernel
theorem dX13_init_221 : decode cX13_init 221 = .ok (.dup, 1) := by decide +kernel
theorem dX13_init_222 : decode cX13_init 222 = .ok (.iconst 2, 1) := by decide +kernel
theorem dX13_init_223 : decode cX13_init 223 = .ok (.bipush 108, 2) := by decide +kernel
theorem dX13_init_225 : decode cX13_init 225 = .ok (.castore, 1) := by decide +kernel
theorem dX13_init_226 : decode cX13_init 226 = .ok (.dup, 1) := by decide +kernel
theorem dX13_init_227 : decode cX13_init 227 = .ok (.iconst 3, 1) := by decide +kernel
theorem dX13_init_228 : decode cX13_init 228 = .ok (.bipush 107, 2) := by decide +kernel
theorem dX13_init_230 : decode cX13_init 230 = .ok (.castore, 1) := by decide +kernel
theorem dX13_init_231 : decode cX13_init 231 = .ok (.dup, 1) := by decide +kernel
theorem dX13_init_232 : decode cX13_init 232 = .ok (.iconst 4, 1) := by decide +kernel
theorem dX13_init_233 : decode cX13_init 233 = .ok (.bipush 101, 2) := by decide +kernel
theorem dX13_init_235 : decode cX13_init 235 = .ok (.castore, 1) := by decide +kernel
theorem dX13_init_236 : decode cX13_init 236 = .ok (.dup, 1) := by decide +kernel
theorem dX13_init_237 : decode cX13_init 237 = .ok (.iconst 5, 1) := by decide +kernel
theorem dX13_init_238 : decode cX13_init 238 = .ok (.bipush 114, 2) := by decide +kernel
theorem dX13_init_240 : decode cX13_init 240 = .ok (.castore, 1) := by decide +kernel
theorem dX13_init_241 : decode cX13_init 241 = .ok (.putfield 42, 3) := by decide +kernel
theorem dX13_init_244 : decode cX13_init 244 = .ok (.aload_n 0, 1) := by decide +kernel
theorem dX13_init_245 : decode cX13_init 245 = .ok (.iconst 4, 1) := by decide +kernel
theorem dX13_init_246 : decode cX13_init 246 = .ok (.newarray .char, 2) := by decide +kernel
theorem dX13_init_248 : decode cX13_init 248 = .ok (.dup, 1) := by decide +kernel
theorem dX13_init_249 : decode cX13_init 249 = .ok (.iconst 0, 1) := by decide +kernel
theorem dX13_init_250 : decode cX13_init 250 = .ok (.bipush 102, 2) := by decide +kernel
theorem dX13_init_252 : decode cX13_init 252 = .ok (.castore, 1) := by decide +kernel
theorem dX13_init_253 : decode cX13_init 253 = .ok (.dup, 1) := by decide +kernel
theorem dX13_init_254 : decode cX13_init 254 = .ok (.iconst 1, 1) := by decide +kernel
theorem dX13_init_255 : decode cX13_init 255 = .ok (.bipush 114, 2) := by decide +kernel
theorem dX13_init_257 : decode cX13_init 257 = .ok (.castore, 1) := by decide +kernel
theorem dX13_init_258 : decode cX13_init 258 = .ok (.dup, 1) := by decide +kernel
theorem dX13_init_259 : decode cX13_init 259 = .ok (.iconst 2, 1) := by decide +kernel
theorem dX13_init_260 : decode cX13_init 260 = .ok (.bipush 111, 2) := by decide +kernel
theorem dX13_init_262 : decode cX13_init 262 = .ok (.castore, 1) := by decide +kernel
theorem dX13_init_263 : decode cX13_init 263 = .ok (.dup, 1) := by decide +kernel
theorem dX13_init_264 : decode cX13_init 264 = .ok (.iconst 3, 1) := by decide +kernel
theorem dX13_init_265 : decode cX13_init 265 = .ok (.bipush 109, 2) := by decide +kernel
theorem dX13_init_267 : decode cX13_init 267 = .ok (.castore, 1) := by decide +kernel
theorem dX13_init_268 : decode cX13_init 268 = .ok (.putfield 45, 3) := by decide +kernel
theorem dX13_init_271 : decode cX13_init 271 = .ok (.aload_n 0, 1) := by decide +kernel
theorem dX13_init_272 : decode cX13_init 272 = .ok (.iconst 2, 1) := by decide +kernel
theorem dX13_init_273 : decode cX13_init 273 = .ok (.newarray .char, 2) := by decide +kernel
theorem dX13_init_275 : decode cX13_init 275 = .ok (.dup, 1) := by decide +kernel
theorem dX13_init_276 : decode cX13_init 276 = .ok (.iconst 0, 1) := by decide +kernel
theorem dX13_init_277 : decode cX13_init 277 = .ok (.bipush 116, 2) := by decide +kernel
theorem dX13_init_279 : decode cX13_init 279 = .ok (.castore, 1) := by decide +kernel
theorem dX13_init_280 : decode cX13_init 280 = .ok (.dup, 1) := by decide +kernel
theorem dX13_init_281 : decode cX13_init 281 = .ok (.iconst 1, 1) := by decide +kernel
theorem dX13_init_282 : decode cX13_init 282 = .ok (.bipush 111, 2) := by decide +kernel
theorem dX13_init_284 : decode cX13_init 284 = .ok (.castore, 1) := by decide +kernel
theorem dX13_init_285 : decode cX13_init 285 = .ok (.putfield 48, 3) := by decide +kernel
theorem dX13_init_288 : decode cX13_init 288 = .ok (.aload_n 0, 1) := by decide +kernel
theorem dX13_init_289 : decode cX13_init 289 = .ok (.iconst 4, 1) := by decide +kernel
theorem dX13_init_290 : decode cX13_init 290 = .ok (.newarray .char, 2) := by decide +kernel
theorem dX13_init_292 : decode cX13_init 292 = .ok (.dup, 1) := by decide +kernel
theorem dX13_init_293 : decode cX13_init 293 = .ok (.iconst 0, 1) := by decide +kernel
theorem dX13_init_294 : decode cX13_init 294 = .ok (.bipush 100, 2) := by decide +kernel
theorem dX13_init_296 : decode cX13_init 296 = .ok (.castore, 1) := by decide +kernel
theorem dX13_init_297 : decode cX13_init 297 = .ok (.dup, 1) := by decide +kernel
theorem dX13_init_298 : decode cX13_init 298 = .ok (.iconst 1, 1) := by decide +kernel
theorem dX13_init_299 : decode cX13_init 299 = .ok (.bipush 111, 2) := by decide +kernel
theorem dX13_init_301 : decode cX13_init 301 = .ok (.castore, 1) := by decide +kernel
theorem dX13_init_302 : decode cX13_init 302 = .ok (.dup, 1) := by decide +kernel
theorem dX13_init_303 : decode cX13_init 303 = .ok (.iconst 2, 1) := by decide +kernel
theorem dX13_init_304 : decode cX13_init 304 = .ok (.bipush 101, 2) := by decide +kernel
theorem dX13_init_306 : decode cX13_init 306 = .ok (.castore, 1) := by decide +kernel
theorem dX13_init_307 : decode cX13_init 307 = .ok (.dup, 1) := by decide +kernel
theorem dX13_init_308 : decode cX13_init 308 = .ok (.iconst 3, 1) := by decide +kernel
theorem dX13_init_309 : decode cX13_init 309 = .ok (.bipush 115, 2) := by decide +kernel
theorem dX13_init_311 : decode cX13_init 311 = .ok (.castore, 1) := by decide +kernel
theorem dX13_init_312 : decode cX13_init 312 = .ok (.putfield 51, 3) := by decide +kernel
theorem dX13_init_315 : decode cX13_init 315 = .ok (.aload_n 0, 1) := by decide +kernel
theorem dX13_init_316 : decode cX13_init 316 = .ok (.iconst 5, 1) := by decide +kernel
theorem dX13_init_317 : decode cX13_init 317 = .ok (.newarray .char, 2) := by decide +kernel
theorem dX13_init_319 : decode cX13_init 319 = .ok (.dup, 1) := by decide +kernel
theorem dX13_init_320 : decode cX13_init 320 = .ok (.iconst 0, 1) := by decide +kernel
theorem dX13_init_321 : decode cX13_init 321 = .ok (.bipush 114, 2) := by decide +kernel
theorem dX13_init_323 : decode cX13_init 323 = .ok (.castore, 1) := by decide +kernel
theorem dX13_init_324 : decode cX13_init 324 = .ok (.dup, 1) := by decide +kernel
theorem dX13_init_325 : decode cX13_init 325 = .ok (.iconst 1, 1) := by decide +kernel
theorem dX13_init_326 : decode cX13_init 326 = .ok (.bipush 105, 2) := by decide +kernel
theorem dX13_init_328 : decode cX13_init 328 = .ok (.castore, 1) := by decide +kernel
theorem dX13_init_329 : decode cX13_init 329 = .ok (.dup, 1) := by decide +kernel
theorem dX13_init_330 : decode cX13_init 330 = .ok (.iconst 2, 1) := by decide +kernel
theorem dX13_init_331 : decode cX13_init 331 = .ok (.bipush 100, 2) := by decide +kernel
theorem dX13_init_333 : decode cX13_init 333 = .ok (.castore, 1) := by decide +kernel
theorem dX13_init_334 : decode cX13_init 334 = .ok (.dup, 1) := by decide +kernel
theorem dX13_init_335 : decode cX13_init 335 = .ok (.iconst 3, 1) := by decide +kernel
theorem dX13_init_336 : decode cX13_init 336 = .ok (.bipush 101, 2) := by decide +kernel
theorem dX13_init_338 : decode cX13_init 338 = .ok (.castore, 1) := by decide +kernel
theorem dX13_init_339 : decode cX13_init 339 = .ok (.dup, 1) := by decide +kernel
theorem dX13_init_340 : decode cX13_init 340 = .ok (.iconst 4, 1) := by decide +kernel
theorem dX13_init_341 : decode cX13_init 341 = .ok (.bipush 115, 2) := by decide +kernel
theorem dX13_init_343 : decode cX13_init 343 = .ok (.castore, 1) := by decide +kernel
theorem dX13_init_344 : decode cX13_init 344 = .ok (.putfield 54, 3) := by decide +kernel
theorem dX13_init_347 : decode cX13_init 347 = .ok (.aload_n 0, 1) := by decide +kernel
theorem dX13_init_348 : decode cX13_init 348 = .ok (.iconst 4, 1) := by decide +kernel
theorem dX13_init_349 : decode cX13_init 349 = .ok (.newarray .char, 2) := by decide +kernel
theorem dX13_init_351 : decode cX13_init 351 = .ok (.dup, 1) := by decide +kernel
theorem dX13_init_352 : decode cX13_init 352 = .ok (.iconst 0, 1) := by decide +kernel
theorem dX13_init_353 : decode cX13_init 353 = .ok (.bipush 112, 2) := by decide +kernel
theorem dX13_init_355 : decode cX13_init 355 = .ok (.castore, 1) := by decide +kernel
theorem dX13_init_356 : decode cX13_init 356 = .ok (.dup, 1) := by decide +kernel
theorem dX13_init_357 : decode cX13_init 357 = .ok (.iconst 1, 1) := by decide +kernel
theorem dX13_init_358 : decode cX13_init 358 = .ok (.bipush 97, 2) := by decide +kernel
theorem dX13_init_360 : decode cX13_init 360 = .ok (.castore, 1) := by decide +kernel
theorem dX13_init_361 : decode cX13_init 361 = .ok (.dup, 1) := by decide +kernel
theorem dX13_init_362 : decode cX13_init 362 = .ok (.iconst 2, 1) := by decide +kernel
theorem dX13_init_363 : decode cX13_init 363 = .ok (.bipush 121, 2) := by decide +kernel
theorem dX13_init_365 : decode cX13_init 365 = .ok (.castore, 1) := by decide +kernel
theorem dX13_init_366 : decode cX13_init 366 = .ok (.dup, 1) := by decide +kernel
theorem dX13_init_367 : decode cX13_init 367 = .ok (.iconst 3, 1) := by decide +kernel
theorem dX13_init_368 : decode cX13_init 368 = .ok (.bipush 115, 2) := by decide +kernel
theorem dX13_init_370 : decode cX13_init 370 = .ok (.castore, 1) := by decide +kernel
theorem dX13_init_371 : decode cX13_init 371 = .ok (.putfield 57, 3) := by decide +kernel
theorem dX13_init_374 : decode cX13_init 374 = .ok (.aload_n 0, 1) := by decide +kernel
theorem dX13_init_375 : decode cX13_init 375 = .ok (.iconst 5, 1) := by decide +kernel
theorem dX13_init_376 : decode cX13_init 376 = .ok (.newarray .char, 2) := by decide +kernel
theorem dX13_init_378 : decode cX13_init 378 = .ok (.dup, 1) := by decide +kernel
theorem dX13_init_379 : decode cX13_init 379 = .ok (.iconst 0, 1) := by decide +kernel
theorem dX13_init_380 : decode cX13_init 380 = .ok (.bipush 107, 2) := by decide +kernel
theorem dX13_init_382 : decode cX13_init 382 = .ok (.castore, 1) := by decide +kernel
theorem dX13_init_383 : decode cX13_init 383 = .ok (.dup, 1) := by decide +kernel
theorem dX13_init_384 : decode cX13_init 384 = .ok (.iconst 1, 1) := by decide +kernel
theorem dX13_init_385 : decode cX13_init 385 = .ok (.bipush 101, 2) := by decide +kernel
theorem dX13_init_387 : decode cX13_init 387 = .ok (.castore, 1) := by decide +kernel
theorem dX13_init_388 : decode cX13_init 388 = .ok (.dup, 1) := by decide +kernel
theorem dX13_init_389 : decode cX13_init 389 = .ok (.iconst 2, 1) := by decide +kernel
theorem dX13_init_390 : decode cX13_init 390 = .ok (.bipush 101, 2) := by decide +kernel
theorem dX13_init_392 : decode cX13_init 392 = .ok (.castore, 1) := by decide +kernel
theorem dX13_init_393 : decode cX13_init 393 = .ok (.dup, 1) := by decide +kernel
theorem dX13_init_394 : decode cX13_init 394 = .ok (.iconst 3, 1) := by decide +kernel
theorem dX13_init_395 : decode cX13_init 395 = .ok (.bipush 112, 2) := by decide +kernel
theorem dX13_init_397 : decode cX13_init 397 = .ok (.castore, 1) := by decide +kernel
theorem dX13_init_398 : decode cX13_init 398 = .ok (.dup, 1) := by decide +kernel
theorem dX13_init_399 : decode cX13_init 399 = .ok (.iconst 4, 1) := by decide +kernel
theorem dX13_init_400 : decode cX13_init 400 = .ok (.bipush 115, 2) := by decide +kernel
theorem dX13_init_402 : decode cX13_init 402 = .ok (.castore, 1) := by decide +kernel
theorem dX13_init_403 : decode cX13_init 403 = .ok (.putfield 60, 3) := by decide +kernel
theorem dX13_init_406 : decode cX13_init 406 = .ok (.aload_n 0, 1) := by decide +kernel
theorem dX13_init_407 : decode cX13_init 407 = .ok (.iconst 4, 1) := by decide +kernel
theorem dX13_init_408 : decode cX13_init 408 = .ok (.newarray .char, 2) := by decide +kernel
theorem dX13_init_410 : decode cX13_init 410 = .ok (.dup, 1) := by decide +kernel
theorem dX13_init_411 : decode cX13_init 411 = .ok (.iconst 0, 1) := by decide +kernel
theorem dX13_init_412 : decode cX13_init 412 = .ok (.bipush 121, 2) := by decide +kernel
theorem dX13_init_414 : decode cX13_init 414 = .ok (.castore, 1) := by decide +kernel
theorem dX13_init_415 : decode cX13_init 415 = .ok (.dup, 1) := by decide +kernel
theorem dX13_init_416 : decode cX13_init 416 = .ok (.iconst 1, 1) := by decide +kernel
theorem dX13_init_417 : decode cX13_init 417 = .ok (.bipush 101, 2) := by decide +kernel
theorem dX13_init_419 : decode cX13_init 419 = .ok (.castore, 1) := by decide +kernel
theorem dX13_init_420 : decode cX13_init 420 = .ok (.dup, 1) := by decide +kernel
theorem dX13_init_421 : decode cX13_init 421 = .ok (.iconst 2, 1) := by decide +kernel
theorem dX13_init_422 : decode cX13_init 422 = .ok (.bipush 97, 2) := by decide +kernel
theorem dX13_init_424 : decode cX13_init 424 = .ok (.castore, 1) := by decide +kernel
theorem dX13_init_425 : decode cX13_init 425 = .ok (.dup, 1) := by decide +kernel
theorem dX13_init_426 : decode cX13_init 426 = .ok (.iconst 3, 1) := by decide +kernel
theorem dX13_init_427 : decode cX13_init 427 = .ok (.bipush 114, 2) := by decide +kernel
theorem dX13_init_429 : decode cX13_init 429 = .ok (.castore, 1) := by decide +kernel
theorem dX13_init_430 : decode cX13_init 430 = .ok (.putfield 63, 3) := by decide +kernel
theorem dX13_init_433 : decode cX13_init 433 = .ok (.aload_n 0, 1) := by decide +kernel
theorem dX13_init_434 : decode cX13_init 434 = .ok (.iconst 4, 1) := by decide +kernel
theorem dX13_init_435 : decode cX13_init 435 = .ok (.newarray .char, 2) := by decide +kernel
theorem dX13_init_437 : decode cX13_init 437 = .ok (.dup, 1) := by decide +kernel
theorem dX13_init_438 : decode cX13_init 438 = .ok (.iconst 0, 1) := by decide +kernel
theorem dX13_init_439 : decode cX13_init 439 = .ok (.bipush 104, 2) := by decide +kernel
theorem dX13_init_441 : decode cX13_init 441 = .ok (.castore, 1) := by decide +kernel
theorem dX13_init_442 : decode cX13_init 442 = .ok (.dup, 1) := by decide +kernel
theorem dX13_init_443 : decode cX13_init 443 = .ok (.iconst 1, 1) := by decide +kernel
theorem dX13_init_444 : decode cX13_init 444 = .ok (.bipush 97, 2) := by decide +kernel
theorem dX13_init_446 : decode cX13_init 446 = .ok (.castore, 1) := by decide +kernel
theorem dX13_init_447 : decode cX13_init 447 = .ok (.dup, 1) := by decide +kernel
theorem dX13_init_448 : decode cX13_init 448 = .ok (.iconst 2, 1) := by decide +kernel
theorem dX13_init_449 : decode cX13_init 449 = .ok (.bipush 114, 2) := by decide +kernel
theorem dX13_init_451 : decode cX13_init 451 = .ok (.castore, 1) := by decide +kernel
theorem dX13_init_452 : decode cX13_init 452 = .ok (.dup, 1) := by decide +kernel
theorem dX13_init_453 : decode cX13_init 453 = .ok (.iconst 3, 1) := by decide +kernel
theorem dX13_init_454 : decode cX13_init 454 = .ok (.bipush 109, 2) := by decide +kernel
theorem dX13_init_456 : decode cX13_init 456 = .ok (.castore, 1) := by decide +kernel
theorem dX13_init_457 : decode cX13_init 457 = .ok (.putfield 66, 3) := by decide +kernel
theorem dX13_init_460 : decode cX13_init 460 = .ok (.aload_n 0, 1) := by decide +kernel
theorem dX13_init_461 : decode cX13_init 461 = .ok (.iconst 5, 1) := by decide +kernel
theorem dX13_init_462 : decode cX13_init 462 = .ok (.newarray .char, 2) := by decide +kernel
theorem dX13_init_464 : decode cX13_init 464 = .ok (.dup, 1) := by decide +kernel
theorem dX13_init_465 : decode cX13_init 465 = .ok (.iconst 0, 1) := by decide +kernel
theorem dX13_init_466 : decode cX13_init 466 = .ok (.bipush 115, 2) := by decide +kernel
theorem dX13_init_468 : decode cX13_init 468 = .ok (.castore, 1) := by decide +kernel
theorem dX13_init_469 : decode cX13_init 469 = .ok (.dup, 1) := by decide +kernel
theorem dX13_init_470 : decode cX13_init 470 = .ok (.iconst 1, 1) := by decide +kernel
theorem dX13_init_471 : decode cX13_init 471 = .ok (.bipush 116, 2) := by decide +kernel
theorem dX13_init_473 : decode cX13_init 473 = .ok (.castore, 1) := by decide +kernel
theorem dX13_init_474 : decode cX13_init 474 = .ok (.dup, 1) := by decide +kernel
theorem dX13_init_475 : decode cX13_init 475 = .ok (.iconst 2, 1) := by decide +kernel
theorem dX13_init_476 : decode cX13_init 476 = .ok (.bipush 111, 2) := by decide +kernel
theorem dX13_init_478 : decode cX13_init 478 = .ok (.castore, 1) := by decide +kernel
theorem dX13_init_479 : decode cX13_init 479 = .ok (.dup, 1) := by decide +kernel
theorem dX13_init_480 : decode cX13_init 480 = .ok (.iconst 3, 1) := by decide +kernel
theorem dX13_init_481 : decode cX13_init 481 = .ok (.bipush 114, 2) := by decide +kernel
theorem dX13_init_483 : decode cX13_init 483 = .ok (.castore, 1) := by decide +kernel
theorem dX13_init_484 : decode cX13_init 484 = .ok (.dup, 1) := by decide +kernel
theorem dX13_init_485 : decode cX13_init 485 = .ok (.iconst 4, 1) := by decide +kernel
theorem dX13_init_486 : decode cX13_init 486 = .ok (.bipush 109, 2) := by decide +kernel
theorem dX13_init_488 : decode cX13_init 488 = .ok (.castore, 1) := by decide +kernel
theorem dX13_init_489 : decode cX13_init 489 = .ok (.putfield 69, 3) := by decide +kernel
theorem dX13_init_492 : decode cX13_init 492 = .ok (.aload_n 0, 1) := by decide +kernel
theorem dX13_init_493 : decode cX13_init 493 = .ok (.iconst 4, 1) := by decide +kernel
theorem dX13_init_494 : decode cX13_init 494 = .ok (.newarray .char, 2) := by decide +kernel
theorem dX13_init_496 : decode cX13_init 496 = .ok (.dup, 1) := by decide +kernel
theorem dX13_init_497 : decode cX13_init 497 = .ok (.iconst 0, 1) := by decide +kernel
theorem dX13_init_498 : decode cX13_init 498 = .ok (.bipush 104, 2) := by decide +kernel
theorem dX13_init_500 : decode cX13_init 500 = .ok (.castore, 1) := by decide +kernel
theorem dX13_init_501 : decode cX13_init 501 = .ok (.dup, 1) := by decide +kernel
theorem dX13_init_502 : decode cX13_init 502 = .ok (.iconst 1, 1) := by decide +kernel
theorem dX13_init_503 : decode cX13_init 503 = .ok (.bipush 111, 2) := by decide +kernel
theorem dX13_init_505 : decode cX13_init 505 = .ok (.castore, 1) := by decide +kernel
theorem dX13_init_506 : decode cX13_init 506 = .ok (.dup, 1) := by decide +kernel
theorem dX13_init_507 : decode cX13_init 507 = .ok (.iconst 2, 1) := by decide +kernel
theorem dX13_init_508 : decode cX13_init 508 = .ok (.bipush 117, 2) := by decide +kernel
theorem dX13_init_510 : decode cX13_init 510 = .ok (.castore, 1) := by decide +kernel
theorem dX13_init_511 : decode cX13_init 511 = .ok (.dup, 1) := by decide +kernel
theorem dX13_init_512 : decode cX13_init 512 = .ok (.iconst 3, 1) := by decide +kernel
theorem dX13_init_513 : decode cX13_init 513 = .ok (.bipush 114, 2) := by decide +kernel
theorem dX13_init_515 : decode cX13_init 515 = .ok (.castore, 1) := by decide +kernel
theorem dX13_init_516 : decode cX13_init 516 = .ok (.putfield 72, 3) := by decide +kernel
theorem dX13_init_519 : decode cX13_init 519 = .ok (.aload_n 0, 1) := by decide +kernel
theorem dX13_init_520 : decode cX13_init 520 = .ok (.iconst 5, 1) := by decide +kernel
theorem dX13_init_521 : decode cX13_init 521 = .ok (.newarray .char, 2) := by decide +kernel
theorem dX13_init_523 : decode cX13_init 523 = .ok (.dup, 1) := by decide +kernel
theorem dX13_init_524 : decode cX13_init 524 = .ok (.iconst 0, 1) := by decide +kernel
theorem dX13_init_525 : decode cX13_init 525 = .ok (.bipush 110, 2) := by decide +kernel
theorem dX13_init_527 : decode cX13_init 527 = .ok (.castore, 1) := by decide +kernel
theorem dX13_init_528 : decode cX13_init 528 = .ok (.dup, 1) := by decide +kernel
theorem dX13_init_529 : decode cX13_init 529 = .ok (.iconst 1, 1) := by decide +kernel
theorem dX13_init_530 : decode cX13_init 530 = .ok (.bipush 105, 2) := by decide +kernel
theorem dX13_init_532 : decode cX13_init 532 = .ok (.castore, 1) := by decide +kernel
theorem dX13_init_533 : decode cX13_init 533 = .ok (.dup, 1) := by decide +kernel
theorem dX13_init_534 : decode cX13_init 534 = .ok (.iconst 2, 1) := by decide +kernel
theorem dX13_init_535 : decode cX13_init 535 = .ok (.bipush 103, 2) := by decide +kernel
theorem dX13_init_537 : decode cX13_init 537 = .ok (.castore, 1) := by decide +kernel
theorem dX13_init_538 : decode cX13_init 538 = .ok (.dup, 1) := by decide +kernel
theorem dX13_init_539 : decode cX13_init 539 = .ok (.iconst 3, 1) := by decide +kernel
theorem dX13_init_540 : decode cX13_init 540 = .ok (.bipush 104, 2) := by decide +kernel
theorem dX13_init_542 : decode cX13_init 542 = .ok (.castore, 1) := by decide +kernel
theorem dX13_init_543 : decode cX13_init 543 = .ok (.dup, 1) := by decide +kernel
theorem dX13_init_544 : decode cX13_init 544 = .ok (.iconst 4, 1) := by decide +kernel
theorem dX13_init_545 : decode cX13_init 545 = .ok (.bipush 116, 2) := by decide +kernel
theorem dX13_init_547 : decode cX13_init 547 = .ok (.castore, 1) := by decide +kernel
theorem dX13_init_548 : decode cX13_init 548 = .ok (.putfield 75, 3) := by decide +kernel
theorem dX13_init_551 : decode cX13_init 551 = .ok (.aload_n 0, 1) := by decide +kernel
theorem dX13_init_552 : decode cX13_init 552 = .ok (.bipush 6, 2) := by decide +kernel
theorem dX13_init_554 : decode cX13_init 554 = .ok (.newarray .char, 2) := by decide +kernel
theorem dX13_init_556 : decode cX13_init 556 = .ok (.dup, 1) := by decide +kernel
theorem dX13_init_557 : decode cX13_init 557 = .ok (.iconst 0, 1) := by decide +kernel
theorem dX13_init_558 : decode cX13_init 558 = .ok (.bipush 99, 2) := by decide +kernel
theorem dX13_init_560 : decode cX13_init 560 = .ok (.castore, 1) := by decide +kernel
theorem dX13_init_561 : decode cX13_init 561 = .ok (.dup, 1) := by decide +kernel
theorem dX13_init_562 : decode cX13_init 562 = .ok (.iconst 1, 1) := by decide +kernel
theorem dX13_init_563 : decode cX13_init 563 = .ok (.bipush 111, 2) := by decide +kernel
theorem dX13_init_565 : decode cX13_init 565 = .ok (.castore, 1) := by decide +kernel
theorem dX13_init_566 : decode cX13_init 566 = .ok (.dup, 1) := by decide +kernel
theorem dX13_init_567 : decode cX13_init 567 = .ok (.iconst 2, 1) := by decide +kernel
theorem dX13_init_568 : decode cX13_init 568 = .ok (.bipush 108, 2) := by decide +kernel
theorem dX13_init_570 : decode cX13_init 570 = .ok (.castore, 1) := by decide +kernel
theorem dX13_init_571 : decode cX13_init 571 = .ok (.dup, 1) := by decide +kernel
theorem dX13_init_572 : decode cX13_init 572 = .ok (.iconst 3, 1) := by decide +kernel
theorem dX13_init_573 : decode cX13_init 573 = .ok (.bipush 117, 2) := by decide +kernel
theorem dX13_init_575 : decode cX13_init 575 = .ok (.castore, 1) := by decide +kernel
theorem dX13_init_576 : decode cX13_init 576 = .ok (.dup, 1) := by decide +kernel
theorem dX13_init_577 : decode cX13_init 577 = .ok (.iconst 4, 1) := by decide +kernel
theorem dX13_init_578 : decode cX13_init 578 = .ok (.bipush 109, 2) := by decide +kernel
theorem dX13_init_580 : decode cX13_init 580 = .ok (.castore, 1) := by decide +kernel
theorem dX13_init_581 : decode cX13_init 581 = .ok (.dup, 1) := by decide +kernel
theorem dX13_init_582 : decode cX13_init 582 = .ok (.iconst 5, 1) := by decide +kernel
theorem dX13_init_583 : decode cX13_init 583 = .ok (.bipush 110, 2) := by decide +kernel
theorem dX13_init_585 : decode cX13_init 585 = .ok (.castore, 1) := by decide +kernel
theorem dX13_init_586 : decode cX13_init 586 = .ok (.putfield 78, 3) := by decide +kernel
theorem dX13_init_589 : decode cX13_init 589 = .ok (.aload_n 0, 1) := by decide +kernel
theorem dX13_init_590 : decode cX13_init 590 = .ok (.iconst 3, 1) := by decide +kernel
theorem dX13_init_591 : decode cX13_init 591 = .ok (.newarray .char, 2) := by decide +kernel
theorem dX13_init_593 : decode cX13_init 593 = .ok (.dup, 1) := by decide +kernel
theorem dX13_init_594 : decode cX13_init 594 = .ok (.iconst 0, 1) := by decide +kernel
theorem dX13_init_595 : decode cX13_init 595 = .ok (.bipush 114, 2) := by decide +kernel
theorem dX13_init_597 : decode cX13_init 597 = .ok (.castore, 1) := by decide +kernel
theorem dX13_init_598 : decode cX13_init 598 = .ok (.dup, 1) := by decide +kernel
theorem dX13_init_599 : decode cX13_init 599 = .ok (.iconst 1, 1) := by decide +kernel
theorem dX13_init_600 : decode cX13_init 600 = .ok (.bipush 111, 2) := by decide +kernel
theorem dX13_init_602 : decode cX13_init 602 = .ok (.castore, 1) := by decide +kernel
theorem dX13_init_603 : decode cX13_init 603 = .ok (.dup, 1) := by decide +kernel
theorem dX13_init_604 : decode cX13_init 604 = .ok (.iconst 2, 1) := by decide +kernel
theorem dX13_init_605 : decode cX13_init 605 = .ok (.bipush 119, 2) := by decide +kernel
theorem dX13_init_607 : decode cX13_init 607 = .ok (.castore, 1) := by decide +kernel
theorem dX13_init_608 : decode cX13_init 608 = .ok (.putfield 81, 3) := by decide +kernel
theorem dX13_init_611 : decode cX13_init 611 = .ok (.aload_n 0, 1) := by decide +kernel
theorem dX13_init_612 : decode cX13_init 612 = .ok (.bipush 6, 2) := by decide +kernel
theorem dX13_init_614 : decode cX13_init 614 = .ok (.newarray .char, 2) := by decide +kernel
theorem dX13_init_616 : decode cX13_init 616 = .ok (.dup, 1) := by decide +kernel
theorem dX13_init_617 : decode cX13_init 617 = .ok (.iconst 0, 1) := by decide +kernel
theorem dX13_init_618 : decode cX13_init 618 = .ok (.bipush 109, 2) := by decide +kernel
theorem dX13_init_620 : decode cX13_init 620 = .ok (.castore, 1) := by decide +kernel
theorem dX13_init_621 : decode cX13_init 621 = .ok (.dup, 1) := by decide +kernel
theorem dX13_init_622 : decode cX13_init 622 = .ok (.iconst 1, 1) := by decide +kernel
theorem dX13_init_623 : decode cX13_init 623 = .ok (.bipush 97, 2) := by decide +kernel
theorem dX13_init_625 : decode cX13_init 625 = .ok (.castore, 1) := by decide +kernel
theorem dX13_init_626 : decode cX13_init 626 = .ok (.dup, 1) := by decide +kernel
theorem dX13_init_627 : decode cX13_init 627 = .ok (.iconst 2, 1) := by decide +kernel
theorem dX13_init_628 : decode cX13_init 628 = .ok (.bipush 110, 2) := by decide +kernel
theorem dX13_init_630 : decode cX13_init 630 = .ok (.castore, 1) := by decide +kernel
theorem dX13_init_631 : decode cX13_init 631 = .ok (.dup, 1) := by decide +kernel
theorem dX13_init_632 : decode cX13_init 632 = .ok (.iconst 3, 1) := by decide +kernel
theorem dX13_init_633 : decode cX13_init 633 = .ok (.bipush 110, 2) := by decide +kernel
theorem dX13_init_635 : decode cX13_init 635 = .ok (.castore, 1) := by decide +kernel
theorem dX13_init_636 : decode cX13_init 636 = .ok (.dup, 1) := by decide +kernel
theorem dX13_init_637 : decode cX13_init 637 = .ok (.iconst 4, 1) := by decide +kernel
theorem dX13_init_638 : decode cX13_init 638 = .ok (.bipush 101, 2) := by decide +kernel
theorem dX13_init_640 : decode cX13_init 640 = .ok (.castore, 1) := by decide +kernel
theorem dX13_init_641 : decode cX13_init 641 = .ok (.dup, 1) := by decide +kernel
theorem dX13_init_642 : decode cX13_init 642 = .ok (.iconst 5, 1) := by decide +kernel
theorem dX13_init_643 : decode cX13_init 643 = .ok (.bipush 114, 2) := by decide +kernel
theorem dX13_init_645 : decode cX13_init 645 = .ok (.castore, 1) := by decide +kernel
theorem dX13_init_646 : decode cX13_init 646 = .ok (.putfield 84, 3) := by decide +kernel
theorem dX13_init_649 : decode cX13_init 649 = .ok (.aload_n 0, 1) := by decide +kernel
theorem dX13_init_650 : decode cX13_init 650 = .ok (.iconst 3, 1) := by decide +kernel
theorem dX13_init_651 : decode cX13_init 651 = .ok (.newarray .char, 2) := by decide +kernel
theorem dX13_init_653 : decode cX13_init 653 = .ok (.dup, 1) := by decide +kernel
theorem dX13_init_654 : decode cX13_init 654 = .ok (.iconst 0, 1) := by decide +kernel
theorem dX13_init_655 : decode cX13_init 655 = .ok (.bipush 109, 2) := by decide +kernel
theorem dX13_init_657 : decode cX13_init 657 = .ok (.castore, 1) := by decide +kernel
theorem dX13_init_658 : decode cX13_init 658 = .ok (.dup, 1) := by decide +kernel
theorem dX13_init_659 : decode cX13_init 659 = .ok (.iconst 1, 1) := by decide +kernel
theorem dX13_init_660 : decode cX13_init 660 = .ok (.bipush 101, 2) := by decide +kernel
theorem dX13_init_662 : decode cX13_init 662 = .ok (.castore, 1) := by decide +kernel
theorem dX13_init_663 : decode cX13_init 663 = .ok (.dup, 1) := by decide +kernel
theorem dX13_init_664 : decode cX13_init 664 = .ok (.iconst 2, 1) := by decide +kernel
theorem dX13_init_665 : decode cX13_init 665 = .ok (.bipush 116, 2) := by decide +kernel
theorem dX13_init_667 : decode cX13_init 667 = .ok (.castore, 1) := by decide +kernel
theorem dX13_init_668 : decode cX13_init 668 = .ok (.putfield 87, 3) := by decide +kernel
theorem dX13_init_671 : decode cX13_init 671 = .ok (.aload_n 0, 1) := by decide +kernel
theorem dX13_init_672 : decode cX13_init 672 = .ok (.iconst 5, 1) := by decide +kernel
theorem dX13_init_673 : decode cX13_init 673 = .ok (.newarray .char, 2) := by decide +kernel
theorem dX13_init_675 : decode cX13_init 675 = .ok (.dup, 1) := by decide +kernel
theorem dX13_init_676 : decode cX13_init 676 = .ok (.iconst 0, 1) := by decide +kernel
theorem dX13_init_677 : decode cX13_init 677 = .ok (.bipush 112, 2) := by decide +kernel
theorem dX13_init_679 : decode cX13_init 679 = .ok (.castore, 1) := by decide +kernel
theorem dX13_init_680 : decode cX13_init 680 = .ok (.dup, 1) := by decide +kernel
theorem dX13_init_681 : decode cX13_init 681 = .ok (.iconst 1, 1) := by decide +kernel
theorem dX13_init_682 : decode cX13_init 682 = .ok (.bipush 117, 2) := by decide +kernel
theorem dX13_init_684 : decode cX13_init 684 = .ok (.castore, 1) := by decide +kernel
theorem dX13_init_685 : decode cX13_init 685 = .ok (.dup, 1) := by decide +kernel
theorem dX13_init_686 : decode cX13_init 686 = .ok (.iconst 2, 1) := by decide +kernel
theorem dX13_init_687 : decode cX13_init 687 = .ok (.bipush 114, 2) := by decide +kernel
theorem dX13_init_689 : decode cX13_init 689 = .ok (.castore, 1) := by decide +kernel
theorem dX13_init_690 : decode cX13_init 690 = .ok (.dup, 1) := by decide +kernel
theorem dX13_init_691 : decode cX13_init 691 = .ok (.iconst 3, 1) := by decide +kernel
theorem dX13_init_692 : decode cX13_init 692 = .ok (.bipush 115, 2) := by decide +kernel
theorem dX13_init_694 : decode cX13_init 694 = .ok (.castore, 1) := by decide +kernel
theorem dX13_init_695 : decode cX13_init 695 = .ok (.dup, 1) := by decide +kernel
theorem dX13_init_696 : decode cX13_init 696 = .ok (.iconst 4, 1) := by decide +kernel
theorem dX13_init_697 : decode cX13_init 697 = .ok (.bipush 101, 2) := by decide +kernel
theorem dX13_init_699 : decode cX13_init 699 = .ok (.castore, 1) := by decide +kernel
theorem dX13_init_700 : decode cX13_init 700 = .ok (.putfield 90, 3) := by decide +kernel
theorem dX13_init_703 : decode cX13_init 703 = .ok (.aload_n 0, 1) := by decide +kernel
theorem dX13_init_704 : decode cX13_init 704 = .ok (.bipush 6, 2) := by decide +kernel
theorem dX13_init_706 : decode cX13_init 706 = .ok (.newarray .char, 2) := by decide +kernel
theorem dX13_init_708 : decode cX13_init 708 = .ok (.dup, 1) := by decide +kernel
theorem dX13_init_709 : decode cX13_init 709 = .ok (.iconst 0, 1) := by decide +kernel
theorem dX13_init_710 : decode cX13_init 710 = .ok (.bipush 110, 2) := by decide +kernel
theorem dX13_init_712 : decode cX13_init 712 = .ok (.castore, 1) := by decide +kernel
theorem dX13_init_713 : decode cX13_init 713 = .ok (.dup, 1) := by decide +kernel
theorem dX13_init_714 : decode cX13_init 714 = .ok (.iconst 1, 1) := by decide +kernel
theorem dX13_init_715 : decode cX13_init 715 = .ok (.bipush 117, 2) := by decide +kernel
theorem dX13_init_717 : decode cX13_init 717 = .ok (.castore, 1) := by decide +kernel
theorem dX13_init_718 : decode cX13_init 718 = .ok (.dup, 1) := by decide +kernel
theorem dX13_init_719 : decode cX13_init 719 = .ok (.iconst 2, 1) := by decide +kernel
theorem dX13_init_720 : decode cX13_init 720 = .ok (.bipush 109, 2) := by decide +kernel
theorem dX13_init_722 : decode cX13_init 722 = .ok (.castore, 1) := by decide +kernel
theorem dX13_init_723 : decode cX13_init 723 = .ok (.dup, 1) := by decide +kernel
theorem dX13_init_724 : decode cX13_init 724 = .ok (.iconst 3, 1) := by decide +kernel
theorem dX13_init_725 : decode cX13_init 725 = .ok (.bipush 98, 2) := by decide +kernel
theorem dX13_init_727 : decode cX13_init 727 = .ok (.castore, 1) := by decide +kernel
theorem dX13_init_728 : decode cX13_init 728 = .ok (.dup, 1) := by decide +kernel
theorem dX13_init_729 : decode cX13_init 729 = .ok (.iconst 4, 1) := by decide +kernel
theorem dX13_init_730 : decode cX13_init 730 = .ok (.bipush 101, 2) := by decide +kernel
theorem dX13_init_732 : decode cX13_init 732 = .ok (.castore, 1) := by decide +kernel
theorem dX13_init_733 : decode cX13_init 733 = .ok (.dup, 1) := by decide +kernel
theorem dX13_init_734 : decode cX13_init 734 = .ok (.iconst 5, 1) := by decide +kernel
theorem dX13_init_735 : decode cX13_init 735 = .ok (.bipush 114, 2) := by decide +kernel
theorem dX13_init_737 : decode cX13_init 737 = .ok (.castore, 1) := by decide +kernel
theorem dX13_init_738 : decode cX13_init 738 = .ok (.putfield 93, 3) := by decide +kernel
theorem dX13_init_741 : decode cX13_init 741 = .ok (.aload_n 0, 1) := by decide +kernel
theorem dX13_init_742 : decode cX13_init 742 = .ok (.iconst 4, 1) := by decide +kernel
theorem dX13_init_743 : decode cX13_init 743 = .ok (.newarray .char, 2) := by decide +kernel
theorem dX13_init_745 : decode cX13_init 745 = .ok (.dup, 1) := by decide +kernel
theorem dX13_init_746 : decode cX13_init 746 = .ok (.iconst 0, 1) := by decide +kernel
theorem dX13_init_747 : decode cX13_init 747 = .ok (.bipush 103, 2) := by decide +kernel
theorem dX13_init_749 : decode cX13_init 749 = .ok (.castore, 1) := by decide +kernel
theorem dX13_init_750 : decode cX13_init 750 = .ok (.dup, 1) := by decide +kernel
theorem dX13_init_751 : decode cX13_init 751 = .ok (.iconst 1, 1) := by decide +kernel
theorem dX13_init_752 : decode cX13_init 752 = .ok (.bipush 111, 2) := by decide +kernel
theorem dX13_init_754 : decode cX13_init 754 = .ok (.castore, 1) := by decide +kernel
theorem dX13_init_755 : decode cX13_init 755 = .ok (.dup, 1) := by decide +kernel
theorem dX13_init_756 : decode cX13_init 756 = .ok (.iconst 2, 1) := by decide +kernel
theorem dX13_init_757 : decode cX13_init 757 = .ok (.bipush 110, 2) := by decide +kernel
theorem dX13_init_759 : decode cX13_init 759 = .ok (.castore, 1) := by decide +kernel
theorem dX13_init_760 : decode cX13_init 760 = .ok (.dup, 1) := by decide +kernel
theorem dX13_init_761 : decode cX13_init 761 = .ok (.iconst 3, 1) := by decide +kernel
theorem dX13_init_762 : decode cX13_init 762 = .ok (.bipush 101, 2) := by decide +kernel
theorem dX13_init_764 : decode cX13_init 764 = .ok (.castore, 1) := by decide +kernel
theorem dX13_init_765 : decode cX13_init 765 = .ok (.putfield 96, 3) := by decide +kernel
theorem dX13_init_768 : decode cX13_init 768 = .ok (.aload_n 0, 1) := by decide +kernel
theorem dX13_init_769 : decode cX13_init 769 = .ok (.iconst 4, 1) := by decide +kernel
theorem dX13_init_770 : decode cX13_init 770 = .ok (.newarray .char, 2) := by decide +kernel
theorem dX13_init_772 : decode cX13_init 772 = .ok (.dup, 1) := by decide +kernel
theorem dX13_init_773 : decode cX13_init 773 = .ok (.iconst 0, 1) := by decide +kernel
theorem dX13_init_774 : decode cX13_init 774 = .ok (.bipush 110, 2) := by decide +kernel
theorem dX13_init_776 : decode cX13_init 776 = .ok (.castore, 1) := by decide +kernel
theorem dX13_init_777 : decode cX13_init 777 = .ok (.dup, 1) := by decide +kernel
theorem dX13_init_778 : decode cX13_init 778 = .ok (.iconst 1, 1) := by decide +kernel
theorem dX13_init_779 : decode cX13_init 779 = .ok (.bipush 101, 2) := by decide +kernel
theorem dX13_init_781 : decode cX13_init 781 = .ok (.castore, 1) := by decide +kernel
theorem dX13_init_782 : decode cX13_init 782 = .ok (.dup, 1) := by decide +kernel
theorem dX13_init_783 : decode cX13_init 783 = .ok (.iconst 2, 1) := by decide +kernel
theorem dX13_init_784 : decode cX13_init 784 = .ok (.bipush 97, 2) := by decide +kernel
theorem dX13_init_786 : decode cX13_init 786 = .ok (.castore, 1) := by decide +kernel
theorem dX13_init_787 : decode cX13_init 787 = .ok (.dup, 1) := by decide +kernel
theorem dX13_init_788 : decode cX13_init 788 = .ok (.iconst 3, 1) := by decide +kernel
theorem dX13_init_789 : decode cX13_init 789 = .ok (.bipush 114, 2) := by decide +kernel
theorem dX13_init_791 : decode cX13_init 791 = .ok (.castore, 1) := by decide +kernel
theorem dX13_init_792 : decode cX13_init 792 = .ok (.putfield 99, 3) := by decide +kernel
theorem dX13_init_795 : decode cX13_init 795 = .ok (.aload_n 0, 1) := by decide +kernel
theorem dX13_init_796 : decode cX13_init 796 = .ok (.iconst 2, 1) := by decide +kernel
theorem dX13_init_797 : decode cX13_init 797 = .ok (.newarray .char, 2) := by decide +kernel
theorem dX13_init_799 : decode cX13_init 799 = .ok (.dup, 1) := by decide +kernel
theorem dX13_init_800 : decode cX13_init 800 = .ok (.iconst 0, 1) := by decide +kernel
theorem dX13_init_801 : decode cX13_init 801 = .ok (.bipush 111, 2) := by decide +kernel
theorem dX13_init_803 : decode cX13_init 803 = .ok (.castore, 1) := by decide +kernel
theorem dX13_init_804 : decode cX13_init 804 = .ok (.dup, 1) := by decide +kernel
theorem dX13_init_805 : decode cX13_init 805 = .ok (.iconst 1, 1) := by decide +kernel
theorem dX13_init_806 : decode cX13_init 806 = .ok (.bipush 114, 2) := by decide +kernel
theorem dX13_init_808 : decode cX13_init 808 = .ok (.castore, 1) := by decide +kernel
theorem dX13_init_809 : decode cX13_init 809 = .ok (.putfield 102, 3) := by decide +kernel
theorem dX13_init_812 : decode cX13_init 812 = .ok (.aload_n 0, 1) := by decide +kernel
theorem dX13_init_813 : decode cX13_init 813 = .ok (.iconst 3, 1) := by decide +kernel
theorem dX13_init_814 : decode cX13_init 814 = .ok (.newarray .char, 2) := by decide +kernel
theorem dX13_init_816 : decode cX13_init 816 = .ok (.dup, 1) := by decide +kernel
theorem dX13_init_817 : decode cX13_init 817 = .ok (.iconst 0, 1) := by decide +kernel
theorem dX13_init_818 : decode cX13_init 818 = .ok (.bipush 97, 2) := by decide +kernel
theorem dX13_init_820 : decode cX13_init 820 = .ok (.castore, 1) := by decide +kernel
theorem dX13_init_821 : decode cX13_init 821 = .ok (.dup, 1) := by decide +kernel
theorem dX13_init_822 : decode cX13_init 822 = .ok (.iconst 1, 1) := by decide +kernel
theorem dX13_init_823 : decode cX13_init 823 = .ok (.bipush 110, 2) := by decide +kernel
theorem dX13_init_825 : decode cX13_init 825 = .ok (.castore, 1) := by decide +kernel
theorem dX13_init_826 : decode cX13_init 826 = .ok (.dup, 1) := by decide +kernel
theorem dX13_init_827 : decode cX13_init 827 = .ok (.iconst 2, 1) := by decide +kernel
theorem dX13_init_828 : decode cX13_init 828 = .ok (.bipush 100, 2) := by decide +kernel
theorem dX13_init_830 : decode cX13_init 830 = .ok (.castore, 1) := by decide +kernel
theorem dX13_init_831 : decode cX13_init 831 = .ok (.putfield 105, 3) := by decide +kernel
theorem dX13_init_834 : decode cX13_init 834 = .ok (.aload_n 0, 1) := by decide +kernel
theorem dX13_init_835 : decode cX13_init 835 = .ok (.iconst 3, 1) := by decide +kernel
theorem dX13_init_836 : decode cX13_init 836 = .ok (.newarray .char, 2) := by decide +kernel
theorem dX13_init_838 : decode cX13_init 838 = .ok (.dup, 1) := by decide +kernel
theorem dX13_init_839 : decode cX13_init 839 = .ok (.iconst 0, 1) := by decide +kernel
theorem dX13_init_840 : decode cX13_init 840 = .ok (.bipush 110, 2) := by decide +kernel
theorem dX13_init_842 : decode cX13_init 842 = .ok (.castore, 1) := by decide +kernel
theorem dX13_init_843 : decode cX13_init 843 = .ok (.dup, 1) := by decide +kernel
theorem dX13_init_844 : decode cX13_init 844 = .ok (.iconst 1, 1) := by decide +kernel
theorem dX13_init_845 : decode cX13_init 845 = .ok (.bipush 111, 2) := by decide +kernel
theorem dX13_init_847 : decode cX13_init 847 = .ok (.castore, 1) := by decide +kernel
theorem dX13_init_848 : decode cX13_init 848 = .ok (.dup, 1) := by decide +kernel
theorem dX13_init_849 : decode cX13_init 849 = .ok (.iconst 2, 1) := by decide +kernel
theorem dX13_init_850 : decode cX13_init 850 = .ok (.bipush 116, 2) := by decide +kernel
theorem dX13_init_852 : decode cX13_init 852 = .ok (.castore, 1) := by decide +kernel
theorem dX13_init_853 : decode cX13_init 853 = .ok (.putfield 108, 3) := by decide +kernel
theorem dX13_init_856 : decode cX13_init 856 = .ok (.aload_n 0, 1) := by decide +kernel
theorem dX13_init_857 : decode cX13_init 857 = .ok (.iconst 3, 1) := by decide +kernel
theorem dX13_init_858 : decode cX13_init 858 = .ok (.newarray .char, 2) := by decide +kernel
theorem dX13_init_860 : decode cX13_init 860 = .ok (.dup, 1) := by decide +kernel
theorem dX13_init_861 : decode cX13_init 861 = .ok (.iconst 0, 1) := by decide +kernel
theorem dX13_init_862 : decode cX13_init 862 = .ok (.bipush 97, 2) := by decide +kernel
theorem dX13_init_864 : decode cX13_init 864 = .ok (.castore, 1) := by decide +kernel
theorem dX13_init_865 : decode cX13_init 865 = .ok (.dup, 1) := by decide +kernel
theorem dX13_init_866 : decode cX13_init 866 = .ok (.iconst 1, 1) := by decide +kernel
theorem dX13_init_867 : decode cX13_init 867 = .ok (.bipush 108, 2) := by decide +kernel
theorem dX13_init_869 : decode cX13_init 869 = .ok (.castore, 1) := by decide +kernel
theorem dX13_init_870 : decode cX13_init 870 = .ok (.dup, 1) := by decide +kernel
theorem dX13_init_871 : decode cX13_init 871 = .ok (.iconst 2, 1) := by decide +kernel
theorem dX13_init_872 : decode cX13_init 872 = .ok (.bipush 108, 2) := by decide +kernel
theorem dX13_init_874 : decode cX13_init 874 = .ok (.castore, 1) := by decide +kernel
theorem dX13_init_875 : decode cX13_init 875 = .ok (.putfield 111, 3) := by decide +kernel
theorem dX13_init_878 : decode cX13_init 878 = .ok (.aload_n 0, 1) := by decide +kernel
theorem dX13_init_879 : decode cX13_init 879 = .ok (.iconst 3, 1) := by decide +kernel
theorem dX13_init_880 : decode cX13_init 880 = .ok (.newarray .char, 2) := by decide +kernel
theorem dX13_init_882 : decode cX13_init 882 = .ok (.dup, 1) := by decide +kernel
theorem dX13_init_883 : decode cX13_init 883 = .ok (.iconst 0, 1) := by decide +kernel
theorem dX13_init_884 : decode cX13_init 884 = .ok (.bipush 109, 2) := by decide +kernel
theorem dX13_init_886 : decode cX13_init 886 = .ok (.castore, 1) := by decide +kernel
theorem dX13_init_887 : decode cX13_init 887 = .ok (.dup, 1) := by decide +kernel
theorem dX13_init_888 : decode cX13_init 888 = .ok (.iconst 1, 1) := by decide +kernel
theorem dX13_init_889 : decode cX13_init 889 = .ok (.bipush 105, 2) := by decide +kernel
theorem dX13_init_891 : decode cX13_init 891 = .ok (.castore, 1) := by decide +kernel
theorem dX13_init_892 : decode cX13_init 892 = .ok (.dup, 1) := by decide +kernel
theorem dX13_init_893 : decode cX13_init 893 = .ok (.iconst 2, 1) := by decide +kernel
theorem dX13_init_894 : decode cX13_init 894 = .ok (.bipush 110, 2) := by decide +kernel
theorem dX13_init_896 : decode cX13_init 896 = .ok (.castore, 1) := by decide +kernel
theorem dX13_init_897 : decode cX13_init 897 = .ok (.putfield 114, 3) := by decide +kernel
theorem dX13_init_900 : decode cX13_init 900 = .ok (.aload_n 0, 1) := by decide +kernel
theorem dX13_init_901 : decode cX13_init 901 = .ok (.iconst 3, 1) := by decide +kernel
theorem dX13_init_902 : decode cX13_init 902 = .ok (.newarray .char, 2) := by decide +kernel
theorem dX13_init_904 : decode cX13_init 904 = .ok (.dup, 1) := by decide +kernel
theorem dX13_init_905 : decode cX13_init 905 = .ok (.iconst 0, 1) := by decide +kernel
theorem dX13_init_906 : decode cX13_init 906 = .ok (.bipush 109, 2) := by decide +kernel
theorem dX13_init_908 : decode cX13_init 908 = .ok (.castore, 1) := by decide +kernel
theorem dX13_init_909 : decode cX13_init 909 = .ok (.dup, 1) := by decide +kernel
theorem dX13_init_910 : decode cX13_init 910 = .ok (.iconst 1, 1) := by decide +kernel
theorem dX13_init_911 : decode cX13_init 911 = .ok (.bipush 97, 2) := by decide +kernel
theorem dX13_init_913 : decode cX13_init 913 = .ok (.castore, 1) := by decide +kernel
theorem dX13_init_914 : decode cX13_init 914 = .ok (.dup, 1) := by decide +kernel
theorem dX13_init_915 : decode cX13_init 915 = .ok (.iconst 2, 1) := by decide +kernel
theorem dX13_init_916 : decode cX13_init 916 = .ok (.bipush 120, 2) := by decide +kernel
theorem dX13_init_918 : decode cX13_init 918 = .ok (.castore, 1) := by decide +kernel
theorem dX13_init_919 : decode cX13_init 919 = .ok (.putfield 117, 3) := by decide +kernel
theorem dX13_init_922 : decode cX13_init 922 = .ok (.aload_n 0, 1) := by decide +kernel
theorem dX13_init_923 : decode cX13_init 923 = .ok (.bipush 6, 2) := by decide +kernel
theorem dX13_init_925 : decode cX13_init 925 = .ok (.newarray .int, 2) := by decide +kernel
theorem dX13_init_927 : decode cX13_init 927 = .ok (.putfield 120, 3) := by decide +kernel
theorem dX13_init_930 : decode cX13_init 930 = .ok (.aload_n 0, 1) := by decide +kernel
theorem dX13_init_931 : decode cX13_init 931 = .ok (.bipush 6, 2) := by decide +kernel
theorem dX13_init_933 : decode cX13_init 933 = .ok (.newarray .int, 2) := by decide +kernel
theorem dX13_init_935 : decode cX13_init 935 = .ok (.putfield 123, 3) := by decide +kernel
theorem dX13_init_938 : decode cX13_init 938 = .ok (.aload_n 0, 1) := by decide +kernel
theorem dX13_init_939 : decode cX13_init 939 = .ok (.bipush 24, 2) := by decide +kernel
theorem dX13_init_941 : decode cX13_init 941 = .ok (.newarray .long, 2) := by decide +kernel
theorem dX13_init_943 : decode cX13_init 943 = .ok (.putfield 126, 3) := by decide +kernel
theorem dX13_init_946 : decode cX13_init 946 = .ok (.aload_n 0, 1) := by decide +kernel
theorem dX13_init_947 : decode cX13_init 947 = .ok (.bipush 20, 2) := by decide +kernel
theorem dX13_init_949 : decode cX13_init 949 = .ok (.newarray .int, 2) := by decide +kernel
theorem dX13_init_951 : decode cX13_init 951 = .ok (.putfield 130, 3) := by decide +kernel
theorem dX13_init_954 : decode cX13_init 954 = .ok (.aload_n 0, 1) := by decide +kernel
theorem dX13_init_955 : decode cX13_init 955 = .ok (.bipush 20, 2) := by decide +kernel
theorem dX13_init_957 : decode cX13_init 957 = .ok (.newarray .int, 2) := by decide +kernel
theorem dX13_init_959 : decode cX13_init 959 = .ok (.putfield 133, 3) := by decide +kernel
theorem dX13_init_962 : decode cX13_init 962 = .ok (.aload_n 0, 1) := by decide +kernel
theorem dX13_init_963 : decode cX13_init 963 = .ok (.bipush 60, 2) := by decide +kernel
theorem dX13_init_965 : decode cX13_init 965 = .ok (.newarray .int, 2) := by decide +kernel
theorem dX13_init_967 : decode cX13_init 967 = .ok (.putfield 136, 3) := by decide +kernel
theorem dX13_init_970 : decode cX13_init 970 = .ok (.aload_n 0, 1) := by decide +kernel
theorem dX13_init_971 : decode cX13_init 971 = .ok (.bipush 6, 2) := by decide +kernel
theorem dX13_init_973 : decode cX13_init 973 = .ok (.newarray .int, 2) := by decide +kernel
theorem dX13_init_975 : decode cX13_init 975 = .ok (.dup, 1) := by decide +kernel
theorem dX13_init_976 : decode cX13_init 976 = .ok (.iconst 0, 1) := by decide +kernel
theorem dX13_init_977 : decode cX13_init 977 = .ok (.bipush 12, 2) := by decide +kernel
theorem dX13_init_979 : decode cX13_init 979 = .ok (.iastore, 1) := by decide +kernel
theorem dX13_init_980 : decode cX13_init 980 = .ok (.dup, 1) := by decide +kernel
theorem dX13_init_981 : decode cX13_init 981 = .ok (.iconst 1, 1) := by decide +kernel
theorem dX13_init_982 : decode cX13_init 982 = .ok (.bipush 20, 2) := by decide +kernel
theorem dX13_init_984 : decode cX13_init 984 = .ok (.iastore, 1) := by decide +kernel
theorem dX13_init_985 : decode cX13_init 985 = .ok (.dup, 1) := by decide +kernel
theorem dX13_init_986 : decode cX13_init 986 = .ok (.iconst 2, 1) := by decide +kernel
theorem dX13_init_987 : decode cX13_init 987 = .ok (.iconst 0, 1) := by decide +kernel
theorem dX13_init_988 : decode cX13_init 988 = .ok (.iastore, 1) := by decide +kernel
theorem dX13_init_989 : decode cX13_init 989 = .ok (.dup, 1) := by decide +kernel
theorem dX13_init_990 : decode cX13_init 990 = .ok (.iconst 3, 1) := by decide +kernel
theorem dX13_init_991 : decode cX13_init 991 = .ok (.bipush 12, 2) := by decide +kernel
theorem dX13_init_993 : decode cX13_init 993 = .ok (.iastore, 1) := by decide +kernel
theorem dX13_init_994 : decode cX13_init 994 = .ok (.dup, 1) := by decide +kernel
theorem dX13_init_995 : decode cX13_init 995 = .ok (.iconst 4, 1) := by decide +kernel
theorem dX13_init_996 : decode cX13_init 996 = .ok (.bipush 20, 2) := by decide +kernel
theorem dX13_init_998 : decode cX13_init 998 = .ok (.iastore, 1) := by decide +kernel
theorem dX13_init_999 : decode cX13_init 999 = .ok (.dup, 1) := by decide +kernel
theorem dX13_init_1000 : decode cX13_init 1000 = .ok (.iconst 5, 1) := by decide +kernel
theorem dX13_init_1001 : decode cX13_init 1001 = .ok (.iconst 0, 1) := by decide +kernel
theorem dX13_init_1002 : decode cX13_init 1002 = .ok (.iastore, 1) := by decide +kernel
theorem dX13_init_1003 : decode cX13_init 1003 = .ok (.putfield 139, 3) := by decide +kernel
theorem dX13_init_1006 : decode cX13_init 1006 = .ok (.aload_n 0, 1) := by decide +kernel
theorem dX13_init_1007 : decode cX13_init 1007 = .ok (.bipush 6, 2) := by decide +kernel
theorem dX13_init_1009 : decode cX13_init 1009 = .ok (.newarray .int, 2) := by decide +kernel
theorem dX13_init_1011 : decode cX13_init 1011 = .ok (.dup, 1) := by decide +kernel
theorem dX13_init_1012 : decode cX13_init 1012 = .ok (.iconst 0, 1) := by decide +kernel
theorem dX13_init_1013 : decode cX13_init 1013 = .ok (.iconst (-1), 1) := by decide +kernel
theorem dX13_init_1014 : decode cX13_init 1014 = .ok (.iastore, 1) := by decide +kernel
theorem dX13_init_1015 : decode cX13_init 1015 = .ok (.dup, 1) := by decide +kernel
theorem dX13_init_1016 : decode cX13_init 1016 = .ok (.iconst 1, 1) := by decide +kernel
theorem dX13_init_1017 : decode cX13_init 1017 = .ok (.iconst (-1), 1) := by decide +kernel
theorem dX13_init_1018 : decode cX13_init 1018 = .ok (.iastore, 1) := by decide +kernel
theorem dX13_init_1019 : decode cX13_init 1019 = .ok (.dup, 1) := by decide +kernel
theorem dX13_init_1020 : decode cX13_init 1020 = .ok (.iconst 2, 1) := by decide +kernel
theorem dX13_init_1021 : decode cX13_init 1021 = .ok (.iconst (-1), 1) := by decide +kernel
theorem dX13_init_1022 : decode cX13_init 1022 = .ok (.iastore, 1) := by decide +kernel
theorem dX13_init_1023 : decode cX13_init 1023 = .ok (.dup, 1) := by decide +kernel
theorem dX13_init_1024 : decode cX13_init 1024 = .ok (.iconst 3, 1) := by decide +kernel
theorem dX13_init_1025 : decode cX13_init 1025 = .ok (.iconst (-1), 1) := by decide +kernel
theorem dX13_init_1026 : decode cX13_init 1026 = .ok (.iastore, 1) := by decide +kernel
theorem dX13_init_1027 : decode cX13_init 1027 = .ok (.dup, 1) := by decide +kernel
theorem dX13_init_1028 : decode cX13_init 1028 = .ok (.iconst 4, 1) := by decide +kernel
theorem dX13_init_1029 : decode cX13_init 1029 = .ok (.iconst (-1), 1) := by decide +kernel
theorem dX13_init_1030 : decode cX13_init 1030 = .ok (.iastore, 1) := by decide +kernel
theorem dX13_init_1031 : decode cX13_init 1031 = .ok (.dup, 1) := by decide +kernel
theorem dX13_init_1032 : decode cX13_init 1032 = .ok (.iconst 5, 1) := by decide +kernel
theorem dX13_init_1033 : decode cX13_init 1033 = .ok (.iconst (-1), 1) := by decide +kernel
theorem dX13_init_1034 : decode cX13_init 1034 = .ok (.iastore, 1) := by decide +kernel
theorem dX13_init_1035 : decode cX13_init 1035 = .ok (.putfield 142, 3) := by decide +kernel
theorem dX13_init_1038 : decode cX13_init 1038 = .ok (.aload_n 0, 1) := by decide +kernel
theorem dX13_init_1039 : decode cX13_init 1039 = .ok (.bipush 6, 2) := by decide +kernel
theorem dX13_init_1041 : decode cX13_init 1041 = .ok (.newarray .int, 2) := by decide +kernel
theorem dX13_init_1043 : decode cX13_init 1043 = .ok (.putfield 145, 3) := by decide +kernel
theorem dX13_init_1046 : decode cX13_init 1046 = .ok (.aload_n 0, 1) := by decide +kernel
theorem dX13_init_1047 : decode cX13_init 1047 = .ok (.sipush 3200, 3) := by decide +kernel
theorem dX13_init_1050 : decode cX13_init 1050 = .ok (.newarray .int, 2) := by decide +kernel
theorem dX13_init_1052 : decode cX13_init 1052 = .ok (.putfield 148, 3) := by decide +kernel
theorem dX13_init_1055 : decode cX13_init 1055 = .ok (.aload_n 0, 1) := by decide +kernel
theorem dX13_init_1056 : decode cX13_init 1056 = .ok (.sipush 187, 3) := by decide +kernel
theorem dX13_init_1059 : decode cX13_init 1059 = .ok (.newarray .int, 2) := by decide +kernel
theorem dX13_init_1061 : decode cX13_init 1061 = .ok (.putfield 151, 3) := by decide +kernel
theorem dX13_init_1064 : decode cX13_init 1064 = .ok (.aload_n 0, 1) := by decide +kernel
theorem dX13_init_1065 : decode cX13_init 1065 = .ok (.bipush 26, 2) := by decide +kernel
theorem dX13_init_1067 : decode cX13_init 1067 = .ok (.newarray .int, 2) := by decide +kernel
theorem dX13_init_1069 : decode cX13_init 1069 = .ok (.putfield 154, 3) := by decide +kernel
theorem dX13_init_1072 : decode cX13_init 1072 = .ok (.aload_n 0, 1) := by decide +kernel
theorem dX13_init_1073 : decode cX13_init 1073 = .ok (.bipush 6, 2) := by decide +kernel
theorem dX13_init_1075 : decode cX13_init 1075 = .ok (.newarray .int, 2) := by decide +kernel
theorem dX13_init_1077 : decode cX13_init 1077 = .ok (.putfield 157, 3) := by decide +kernel
theorem dX13_init_1080 : decode cX13_init 1080 = .ok (.aload_n 0, 1) := by decide +kernel
theorem dX13_init_1081 : decode cX13_init 1081 = .ok (.bipush 12, 2) := by decide +kernel
theorem dX13_init_1083 : decode cX13_init 1083 = .ok (.newarray .int, 2) := by decide +kernel
theorem dX13_init_1085 : decode cX13_init 1085 = .ok (.putfield 160, 3) := by decide +kernel
theorem dX13_init_1088 : decode cX13_init 1088 = .ok (.aload_n 0, 1) := by decide +kernel
theorem dX13_init_1089 : decode cX13_init 1089 = .ok (.iconst (-1), 1) := by decide +kernel
theorem dX13_init_1090 : decode cX13_init 1090 = .ok (.putfield 163, 3) := by decide +kernel
theorem dX13_init_1093 : decode cX13_init 1093 = .ok (.aload_n 0, 1) := by decide +kernel
theorem dX13_init_1094 : decode cX13_init 1094 = .ok (.bipush 98, 2) := by decide +kernel
theorem dX13_init_1096 : decode cX13_init 1096 = .ok (.newarray .boolean, 2) := by decide +kernel
theorem dX13_init_1098 : decode cX13_init 1098 = .ok (.putfield 166, 3) := by decide +kernel
theorem dX13_init_1101 : decode cX13_init 1101 = .ok (.aload_n 0, 1) := by decide +kernel
theorem dX13_init_1102 : decode cX13_init 1102 = .ok (.bipush 24, 2) := by decide +kernel
theorem dX13_init_1104 : decode cX13_init 1104 = .ok (.newarray .int, 2) := by decide +kernel
theorem dX13_init_1106 : decode cX13_init 1106 = .ok (.putfield 170, 3) := by decide +kernel
theorem dX13_init_1109 : decode cX13_init 1109 = .ok (.aload_n 0, 1) := by decide +kernel
theorem dX13_init_1110 : decode cX13_init 1110 = .ok (.sipush 588, 3) := by decide +kernel
theorem dX13_init_1113 : decode cX13_init 1113 = .ok (.newarray .int, 2) := by decide +kernel
theorem dX13_init_1115 : decode cX13_init 1115 = .ok (.putfield 173, 3) := by decide +kernel
theorem dX13_init_1118 : decode cX13_init 1118 = .ok (.aload_n 0, 1) := by decide +kernel
theorem dX13_init_1119 : decode cX13_init 1119 = .ok (.sipush 3740, 3) := by decide +kernel
theorem dX13_init_1122 : decode cX13_init 1122 = .ok (.newarray .int, 2) := by decide +kernel
theorem dX13_init_1124 : decode cX13_init 1124 = .ok (.putfield 176, 3) := by decide +kernel
theorem dX13_init_1127 : decode cX13_init 1127 = .ok (.aload_n 0, 1) := by decide +kernel
theorem dX13_init_1128 : decode cX13_init 1128 = .ok (.lconst 1, 1) := by decide +kernel
theorem dX13_init_1129 : decode cX13_init 1129 = .ok (.putfield 179, 3) := by decide +kernel
theorem dX13_init_1132 : decode cX13_init 1132 = .ok (.aload_n 0, 1) := by decide +kernel
theorem dX13_init_1133 : decode cX13_init 1133 = .ok (.iconst 5, 1) := by decide +kernel
theorem dX13_init_1134 : decode cX13_init 1134 = .ok (.newarray .char, 2) := by decide +kernel
theorem dX13_init_1136 : decode cX13_init 1136 = .ok (.dup, 1) := by decide +kernel
theorem dX13_init_1137 : decode cX13_init 1137 = .ok (.iconst 0, 1) := by decide +kernel
theorem dX13_init_1138 : decode cX13_init 1138 = .ok (.bipush 102, 2) := by decide +kernel
theorem dX13_init_1140 : decode cX13_init 1140 = .ok (.castore, 1) := by decide +kernel
theorem dX13_init_1141 : decode cX13_init 1141 = .ok (.dup, 1) := by decide +kernel
theorem dX13_init_1142 : decode cX13_init 1142 = .ok (.iconst 1, 1) := by decide +kernel
theorem dX13_init_1143 : decode cX13_init 1143 = .ok (.bipush 105, 2) := by decide +kernel
theorem dX13_init_1145 : decode cX13_init 1145 = .ok (.castore, 1) := by decide +kernel
theorem dX13_init_1146 : decode cX13_init 1146 = .ok (.dup, 1) := by decide +kernel
theorem dX13_init_1147 : decode cX13_init 1147 = .ok (.iconst 2, 1) := by decide +kernel
theorem dX13_init_1148 : decode cX13_init 1148 = .ok (.bipush 114, 2) := by decide +kernel
theorem dX13_init_1150 : decode cX13_init 1150 = .ok (.castore, 1) := by decide +kernel
theorem dX13_init_1151 : decode cX13_init 1151 = .ok (.dup, 1) := by decide +kernel
theorem dX13_init_1152 : decode cX13_init 1152 = .ok (.iconst 3, 1) := by decide +kernel
theorem dX13_init_1153 : decode cX13_init 1153 = .ok (.bipush 115, 2) := by decide +kernel
theorem dX13_init_1155 : decode cX13_init 1155 = .ok (.castore, 1) := by decide +kernel
theorem dX13_init_1156 : decode cX13_init 1156 = .ok (.dup, 1) := by decide +kernel
theorem dX13_init_1157 : decode cX13_init 1157 = .ok (.iconst 4, 1) := by decide +kernel
theorem dX13_init_1158 : decode cX13_init 1158 = .ok (.bipush 116, 2) := by decide +kernel
theorem dX13_init_1160 : decode cX13_init 1160 = .ok (.castore, 1) := by decide +kernel
theorem dX13_init_1161 : decode cX13_init 1161 = .ok (.putfield 183, 3) := by decide +kernel
theorem dX13_init_1164 : decode cX13_init 1164 = .ok (.aload_n 0, 1) := by decide +kernel
theorem dX13_init_1165 : decode cX13_init 1165 = .ok (.iconst 4, 1) := by decide +kernel
theorem dX13_init_1166 : decode cX13_init 1166 = .ok (.newarray .char, 2) := by decide +kernel
theorem dX13_init_1168 : decode cX13_init 1168 = .ok (.dup, 1) := by decide +kernel
theorem dX13_init_1169 : decode cX13_init 1169 = .ok (.iconst 0, 1) := by decide +kernel
theorem dX13_init_1170 : decode cX13_init 1170 = .ok (.bipush 108, 2) := by decide +kernel
theorem dX13_init_1172 : decode cX13_init 1172 = .ok (.castore, 1) := by decide +kernel
theorem dX13_init_1173 : decode cX13_init 1173 = .ok (.dup, 1) := by decide +kernel
theorem dX13_init_1174 : decode cX13_init 1174 = .ok (.iconst 1, 1) := by decide +kernel
theorem dX13_init_1175 : decode cX13_init 1175 = .ok (.bipush 97, 2) := by decide +kernel
theorem dX13_init_1177 : decode cX13_init 1177 = .ok (.castore, 1) := by decide +kernel
theorem dX13_init_1178 : decode cX13_init 1178 = .ok (.dup, 1) := by decide +kernel
theorem dX13_init_1179 : decode cX13_init 1179 = .ok (.iconst 2, 1) := by decide +kernel
theorem dX13_init_1180 : decode cX13_init 1180 = .ok (.bipush 115, 2) := by decide +kernel
theorem dX13_init_1182 : decode cX13_init 1182 = .ok (.castore, 1) := by decide +kernel
theorem dX13_init_1183 : decode cX13_init 1183 = .ok (.dup, 1) := by decide +kernel
theorem dX13_init_1184 : decode cX13_init 1184 = .ok (.iconst 3, 1) := by decide +kernel
theorem dX13_init_1185 : decode cX13_init 1185 = .ok (.bipush 116, 2) := by decide +kernel
theorem dX13_init_1187 : decode cX13_init 1187 = .ok (.castore, 1) := by decide +kernel
theorem dX13_init_1188 : decode cX13_init 1188 = .ok (.putfield 186, 3) := by decide +kernel
theorem dX13_init_1191 : decode cX13_init 1191 = .ok (.aload_n 0, 1) := by decide +kernel
theorem dX13_init_1192 : decode cX13_init 1192 = .ok (.iconst 5, 1) := by decide +kernel
theorem dX13_init_1193 : decode cX13_init 1193 = .ok (.newarray .char, 2) := by decide +kernel
theorem dX13_init_1195 : decode cX13_init 1195 = .ok (.dup, 1) := by decide +kernel
theorem dX13_init_1196 : decode cX13_init 1196 = .ok (.iconst 0, 1) := by decide +kernel
theorem dX13_init_1197 : decode cX13_init 1197 = .ok (.bipush 111, 2) := by decide +kernel
theorem dX13_init_1199 : decode cX13_init 1199 = .ok (.castore, 1) := by decide +kernel
theorem dX13_init_1200 : decode cX13_init 1200 = .ok (.dup, 1) := by decide +kernel
theorem dX13_init_1201 : decode cX13_init 1201 = .ok (.iconst 1, 1) := by decide +kernel
theorem dX13_init_1202 : decode cX13_init 1202 = .ok (.bipush 102, 2) := by decide +kernel
theorem dX13_init_1204 : decode cX13_init 1204 = .ok (.castore, 1) := by decide +kernel
theorem dX13_init_1205 : decode cX13_init 1205 = .ok (.dup, 1) := by decide +kernel
theorem dX13_init_1206 : decode cX13_init 1206 = .ok (.iconst 2, 1) := by decide +kernel
theorem dX13_init_1207 : decode cX13_init 1207 = .ok (.bipush 116, 2) := by decide +kernel
theorem dX13_init_1209 : decode cX13_init 1209 = .ok (.castore, 1) := by decide +kernel
theorem dX13_init_1210 : decode cX13_init 1210 = .ok (.dup, 1) := by decide +kernel
theorem dX13_init_1211 : decode cX13_init 1211 = .ok (.iconst 3, 1) := by decide +kernel
theorem dX13_init_1212 : decode cX13_init 1212 = .ok (.bipush 101, 2) := by decide +kernel
theorem dX13_init_1214 : decode cX13_init 1214 = .ok (.castore, 1) := by decide +kernel
theorem dX13_init_1215 : decode cX13_init 1215 = .ok (.dup, 1) := by decide +kernel
theorem dX13_init_1216 : decode cX13_init 1216 = .ok (.iconst 4, 1) := by decide +kernel
theorem dX13_init_1217 : decode cX13_init 1217 = .ok (.bipush 110, 2) := by decide +kernel
theorem dX13_init_1219 : decode cX13_init 1219 = .ok (.castore, 1) := by decide +kernel
theorem dX13_init_1220 : decode cX13_init 1220 = .ok (.putfield 189, 3) := by decide +kernel
theorem dX13_init_1223 : decode cX13_init 1223 = .ok (.aload_n 0, 1) := by decide +kernel
theorem dX13_init_1224 : decode cX13_init 1224 = .ok (.iconst 5, 1) := by decide +kernel
theorem dX13_init_1225 : decode cX13_init 1225 = .ok (.newarray .char, 2) := by decide +kernel
theorem dX13_init_1227 : decode cX13_init 1227 = .ok (.dup, 1) := by decide +kernel
theorem dX13_init_1228 : decode cX13_init 1228 = .ok (.iconst 0, 1) := by decide +kernel
theorem dX13_init_1229 : decode cX13_init 1229 = .ok (.bipush 116, 2) := by decide +kernel
theorem dX13_init_1231 : decode cX13_init 1231 = .ok (.castore, 1) := by decide +kernel
theorem dX13_init_1232 : decode cX13_init 1232 = .ok (.dup, 1) := by decide +kernel
theorem dX13_init_1233 : decode cX13_init 1233 = .ok (.iconst 1, 1) := by decide +kernel
theorem dX13_init_1234 : decode cX13_init 1234 = .ok (.bipush 111, 2) := by decide +kernel
theorem dX13_init_1236 : decode cX13_init 1236 = .ok (.castore, 1) := by decide +kernel
theorem dX13_init_1237 : decode cX13_init 1237 = .ok (.dup, 1) := by decide +kernel
theorem dX13_init_1238 : decode cX13_init 1238 = .ok (.iconst 2, 1) := by decide +kernel
theorem dX13_init_1239 : decode cX13_init 1239 = .ok (.bipush 116, 2) := by decide +kernel
theorem dX13_init_1241 : decode cX13_init 1241 = .ok (.castore, 1) := by decide +kernel
theorem dX13_init_1242 : decode cX13_init 1242 = .ok (.dup, 1) := by decide +kernel
theorem dX13_init_1243 : decode cX13_init 1243 = .ok (.iconst 3, 1) := by decide +kernel
theorem dX13_init_1244 : decode cX13_init 1244 = .ok (.bipush 97, 2) := by decide +kernel
theorem dX13_init_1246 : decode cX13_init 1246 = .ok (.castore, 1) := by decide +kernel
theorem dX13_init_1247 : decode cX13_init 1247 = .ok (.dup, 1) := by decide +kernel
theorem dX13_init_1248 : decode cX13_init 1248 = .ok (.iconst 4, 1) := by decide +kernel
theorem dX13_init_1249 : decode cX13_init 1249 = .ok (.bipush 108, 2) := by decide +kernel
theorem dX13_init_1251 : decode cX13_init 1251 = .ok (.castore, 1) := by decide +kernel
theorem dX13_init_1252 : decode cX13_init 1252 = .ok (.putfield 192, 3) := by decide +kernel
theorem dX13_init_1255 : decode cX13_init 1255 = .ok (.aload_n 0, 1) := by decide +kernel
theorem dX13_init_1256 : decode cX13_init 1256 = .ok (.iconst 4, 1) := by decide +kernel
theorem dX13_init_1257 : decode cX13_init 1257 = .ok (.newarray .char, 2) := by decide +kernel
theorem dX13_init_1259 : decode cX13_init 1259 = .ok (.dup, 1) := by decide +kernel
theorem dX13_init_1260 : decode cX13_init 1260 = .ok (.iconst 0, 1) := by decide +kernel
theorem dX13_init_1261 : decode cX13_init 1261 = .ok (.bipush 109, 2) := by decide +kernel
theorem dX13_init_1263 : decode cX13_init 1263 = .ok (.castore, 1) := by decide +kernel
theorem dX13_init_1264 : decode cX13_init 1264 = .ok (.dup, 1) := by decide +kernel
theorem dX13_init_1265 : decode cX13_init 1265 = .ok (.iconst 1, 1) := by decide +kernel
theorem dX13_init_1266 : decode cX13_init 1266 = .ok (.bipush 111, 2) := by decide +kernel
theorem dX13_init_1268 : decode cX13_init 1268 = .ok (.castore, 1) := by decide +kernel
theorem dX13_init_1269 : decode cX13_init 1269 = .ok (.dup, 1) := by decide +kernel
theorem dX13_init_1270 : decode cX13_init 1270 = .ok (.iconst 2, 1) := by decide +kernel
theorem dX13_init_1271 : decode cX13_init 1271 = .ok (.bipush 115, 2) := by decide +kernel
theorem dX13_init_1273 : decode cX13_init 1273 = .ok (.castore, 1) := by decide +kernel
theorem dX13_init_1274 : decode cX13_init 1274 = .ok (.dup, 1) := by decide +kernel
theorem dX13_init_1275 : decode cX13_init 1275 = .ok (.iconst 3, 1) := by decide +kernel
theorem dX13_init_1276 : decode cX13_init 1276 = .ok (.bipush 116, 2) := by decide +kernel
theorem dX13_init_1278 : decode cX13_init 1278 = .ok (.castore, 1) := by decide +kernel
theorem dX13_init_1279 : decode cX13_init 1279 = .ok (.putfield 195, 3) := by decide +kernel
theorem dX13_init_1282 : decode cX13_init 1282 = .ok (.aload_n 0, 1) := by decide +kernel
theorem dX13_init_1283 : decode cX13_init 1283 = .ok (.iconst 5, 1) := by decide +kernel
theorem dX13_init_1284 : decode cX13_init 1284 = .ok (.newarray .char, 2) := by decide +kernel
theorem dX13_init_1286 : decode cX13_init 1286 = .ok (.dup, 1) := by decide +kernel
theorem dX13_init_1287 : decode cX13_init 1287 = .ok (.iconst 0, 1) := by decide +kernel
theorem dX13_init_1288 : decode cX13_init 1288 = .ok (.bipush 108, 2) := by decide +kernel
theorem dX13_init_1290 : decode cX13_init 1290 = .ok (.castore, 1) := by decide +kernel
theorem dX13_init_1291 : decode cX13_init 1291 = .ok (.dup, 1) := by decide +kernel
theorem dX13_init_1292 : decode cX13_init 1292 = .ok (.iconst 1, 1) := by decide +kernel
theorem dX13_init_1293 : decode cX13_init 1293 = .ok (.bipush 101, 2) := by decide +kernel
theorem dX13_init_1295 : decode cX13_init 1295 = .ok (.castore, 1) := by decide +kernel
theorem dX13_init_1296 : decode cX13_init 1296 = .ok (.dup, 1) := by decide +kernel
theorem dX13_init_1297 : decode cX13_init 1297 = .ok (.iconst 2, 1) := by decide +kernel
theorem dX13_init_1298 : decode cX13_init 1298 = .ok (.bipush 97, 2) := by decide +kernel
theorem dX13_init_1300 : decode cX13_init 1300 = .ok (.castore, 1) := by decide +kernel
theorem dX13_init_1301 : decode cX13_init 1301 = .ok (.dup, 1) := by decide +kernel
theorem dX13_init_1302 : decode cX13_init 1302 = .ok (.iconst 3, 1) := by decide +kernel
theorem dX13_init_1303 : decode cX13_init 1303 = .ok (.bipush 115, 2) := by decide +kernel
theorem dX13_init_1305 : decode cX13_init 1305 = .ok (.castore, 1) := by decide +kernel
theorem dX13_init_1306 : decode cX13_init 1306 = .ok (.dup, 1) := by decide +kernel
theorem dX13_init_1307 : decode cX13_init 1307 = .ok (.iconst 4, 1) := by decide +kernel
theorem dX13_init_1308 : decode cX13_init 1308 = .ok (.bipush 116, 2) := by decide +kernel
theorem dX13_init_1310 : decode cX13_init 1310 = .ok (.castore, 1) := by decide +kernel
theorem dX13_init_1311 : decode cX13_init 1311 = .ok (.putfield 198, 3) := by decide +kernel
theorem dX13_init_1314 : decode cX13_init 1314 = .ok (.aload_n 0, 1) := by decide +kernel
theorem dX13_init_1315 : decode cX13_init 1315 = .ok (.iconst 3, 1) := by decide +kernel
theorem dX13_init_1316 : decode cX13_init 1316 = .ok (.newarray .char, 2) := by decide +kernel
theorem dX13_init_1318 : decode cX13_init 1318 = .ok (.dup, 1) := by decide +kernel
theorem dX13_init_1319 : decode cX13_init 1319 = .ok (.iconst 0, 1) := by decide +kernel
theorem dX13_init_1320 : decode cX13_init 1320 = .ok (.bipush 110, 2) := by decide +kernel
theorem dX13_init_1322 : decode cX13_init 1322 = .ok (.castore, 1) := by decide +kernel
theorem dX13_init_1323 : decode cX13_init 1323 = .ok (.dup, 1) := by decide +kernel
theorem dX13_init_1324 : decode cX13_init 1324 = .ok (.iconst 1, 1) := by decide +kernel
theorem dX13_init_1325 : decode cX13_init 1325 = .ok (.bipush 111, 2) := by decide +kernel
theorem dX13_init_1327 : decode cX13_init 1327 = .ok (.castore, 1) := by decide +kernel
theorem dX13_init_1328 : decode cX13_init 1328 = .ok (.dup, 1) := by decide +kernel
theorem dX13_init_1329 : decode cX13_init 1329 = .ok (.iconst 2, 1) := by decide +kernel
theorem dX13_init_1330 : decode cX13_init 1330 = .ok (.bipush 116, 2) := by decide +kernel
theorem dX13_init_1332 : decode cX13_init 1332 = .ok (.castore, 1) := by decide +kernel
theorem dX13_init_1333 : decode cX13_init 1333 = .ok (.putfield 201, 3) := by decide +kernel
theorem dX13_init_1336 : decode cX13_init 1336 = .ok (.aload_n 0, 1) := by decide +kernel
theorem dX13_init_1337 : decode cX13_init 1337 = .ok (.iconst 3, 1) := by decide +kernel
theorem dX13_init_1338 : decode cX13_init 1338 = .ok (.newarray .char, 2) := by decide +kernel
theorem dX13_init_1340 : decode cX13_init 1340 = .ok (.dup, 1) := by decide +kernel
theorem dX13_init_1341 : decode cX13_init 1341 = .ok (.iconst 0, 1) := by decide +kernel
theorem dX13_init_1342 : decode cX13_init 1342 = .ok (.bipush 97, 2) := by decide +kernel
theorem dX13_init_1344 : decode cX13_init 1344 = .ok (.castore, 1) := by decide +kernel
theorem dX13_init_1345 : decode cX13_init 1345 = .ok (.dup, 1) := by decide +kernel
theorem dX13_init_1346 : decode cX13_init 1346 = .ok (.iconst 1, 1) := by decide +kernel
theorem dX13_init_1347 : decode cX13_init 1347 = .ok (.bipush 110, 2) := by decide +kernel
theorem dX13_init_1349 : decode cX13_init 1349 = .ok (.castore, 1) := by decide +kernel
theorem dX13_init_1350 : decode cX13_init 1350 = .ok (.dup, 1) := by decide +kernel
theorem dX13_init_1351 : decode cX13_init 1351 = .ok (.iconst 2, 1) := by decide +kernel
theorem dX13_init_1352 : decode cX13_init 1352 = .ok (.bipush 100, 2) := by decide +kernel
theorem dX13_init_1354 : decode cX13_init 1354 = .ok (.castore, 1) := by decide +kernel
theorem dX13_init_1355 : decode cX13_init 1355 = .ok (.putfield 204, 3) := by decide +kernel
theorem dX13_init_1358 : decode cX13_init 1358 = .ok (.aload_n 0, 1) := by decide +kernel
theorem dX13_init_1359 : decode cX13_init 1359 = .ok (.iconst 2, 1) := by decide +kernel
theorem dX13_init_1360 : decode cX13_init 1360 = .ok (.newarray .char, 2) := by decide +kernel
theorem dX13_init_1362 : decode cX13_init 1362 = .ok (.dup, 1) := by decide +kernel
theorem dX13_init_1363 : decode cX13_init 1363 = .ok (.iconst 0, 1) := by decide +kernel
theorem dX13_init_1364 : decode cX13_init 1364 = .ok (.bipush 111, 2) := by decide +kernel
theorem dX13_init_1366 : decode cX13_init 1366 = .ok (.castore, 1) := by decide +kernel
theorem dX13_init_1367 : decode cX13_init 1367 = .ok (.dup, 1) := by decide +kernel
theorem dX13_init_1368 : decode cX13_init 1368 = .ok (.iconst 1, 1) := by decide +kernel
theorem dX13_init_1369 : decode cX13_init 1369 = .ok (.bipush 114, 2) := by decide +kernel
theorem dX13_init_1371 : decode cX13_init 1371 = .ok (.castore, 1) := by decide +kernel
theorem dX13_init_1372 : decode cX13_init 1372 = .ok (.putfield 207, 3) := by decide +kernel
theorem dX13_init_1375 : decode cX13_init 1375 = .ok (.aload_n 0, 1) := by decide +kernel
theorem dX13_init_1376 : decode cX13_init 1376 = .ok (.iconst 3, 1) := by decide +kernel
theorem dX13_init_1377 : decode cX13_init 1377 = .ok (.newarray .char, 2) := by decide +kernel
theorem dX13_init_1379 : decode cX13_init 1379 = .ok (.dup, 1) := by decide +kernel
theorem dX13_init_1380 : decode cX13_init 1380 = .ok (.iconst 0, 1) := by decide +kernel
theorem dX13_init_1381 : decode cX13_init 1381 = .ok (.bipush 97, 2) := by decide +kernel
theorem dX13_init_1383 : decode cX13_init 1383 = .ok (.castore, 1) := by decide +kernel
theorem dX13_init_1384 : decode cX13_init 1384 = .ok (.dup, 1) := by decide +kernel
theorem dX13_init_1385 : decode cX13_init 1385 = .ok (.iconst 1, 1) := by decide +kernel
theorem dX13_init_1386 : decode cX13_init 1386 = .ok (.bipush 108, 2) := by decide +kernel
theorem dX13_init_1388 : decode cX13_init 1388 = .ok (.castore, 1) := by decide +kernel
theorem dX13_init_1389 : decode cX13_init 1389 = .ok (.dup, 1) := by decide +kernel
theorem dX13_init_1390 : decode cX13_init 1390 = .ok (.iconst 2, 1) := by decide +kernel
theorem dX13_init_1391 : decode cX13_init 1391 = .ok (.bipush 108, 2) := by decide +kernel
theorem dX13_init_1393 : decode cX13_init 1393 = .ok (.castore, 1) := by decide +kernel
theorem dX13_init_1394 : decode cX13_init 1394 = .ok (.putfield 210, 3) := by decide +kernel
theorem dX13_init_1397 : decode cX13_init 1397 = .ok (.aload_n 0, 1) := by decide +kernel
theorem dX13_init_1398 : decode cX13_init 1398 = .ok (.iconst 3, 1) := by decide +kernel
theorem dX13_init_1399 : decode cX13_init 1399 = .ok (.newarray .char, 2) := by decide +kernel
theorem dX13_init_1401 : decode cX13_init 1401 = .ok (.dup, 1) := by decide +kernel
theorem dX13_init_1402 : decode cX13_init 1402 = .ok (.iconst 0, 1) := by decide +kernel
theorem dX13_init_1403 : decode cX13_init 1403 = .ok (.bipush 109, 2) := by decide +kernel
theorem dX13_init_1405 : decode cX13_init 1405 = .ok (.castore, 1) := by decide +kernel
theorem dX13_init_1406 : decode cX13_init 1406 = .ok (.dup, 1) := by decide +kernel
theorem dX13_init_1407 : decode cX13_init 1407 = .ok (.iconst 1, 1) := by decide +kernel
theorem dX13_init_1408 : decode cX13_init 1408 = .ok (.bipush 105, 2) := by decide +kernel
theorem dX13_init_1410 : decode cX13_init 1410 = .ok (.castore, 1) := by decide +kernel
theorem dX13_init_1411 : decode cX13_init 1411 = .ok (.dup, 1) := by decide +kernel
theorem dX13_init_1412 : decode cX13_init 1412 = .ok (.iconst 2, 1) := by decide +kernel
theorem dX13_init_1413 : decode cX13_init 1413 = .ok (.bipush 110, 2) := by decide +kernel
theorem dX13_init_1415 : decode cX13_init 1415 = .ok (.castore, 1) := by decide +kernel
theorem dX13_init_1416 : decode cX13_init 1416 = .ok (.putfield 213, 3) := by decide +kernel
theorem dX13_init_1419 : decode cX13_init 1419 = .ok (.aload_n 0, 1) := by decide +kernel
theorem dX13_init_1420 : decode cX13_init 1420 = .ok (.iconst 3, 1) := by decide +kernel
theorem dX13_init_1421 : decode cX13_init 1421 = .ok (.newarray .char, 2) := by decide +kernel
theorem dX13_init_1423 : decode cX13_init 1423 = .ok (.dup, 1) := by decide +kernel
theorem dX13_init_1424 : decode cX13_init 1424 = .ok (.iconst 0, 1) := by decide +kernel
theorem dX13_init_1425 : decode cX13_init 1425 = .ok (.bipush 109, 2) := by decide +kernel
theorem dX13_init_1427 : decode cX13_init 1427 = .ok (.castore, 1) := by decide +kernel
theorem dX13_init_1428 : decode cX13_init 1428 = .ok (.dup, 1) := by decide +kernel
theorem dX13_init_1429 : decode cX13_init 1429 = .ok (.iconst 1, 1) := by decide +kernel
theorem dX13_init_1430 : decode cX13_init 1430 = .ok (.bipush 97, 2) := by decide +kernel
theorem dX13_init_1432 : decode cX13_init 1432 = .ok (.castore, 1) := by decide +kernel
theorem dX13_init_1433 : decode cX13_init 1433 = .ok (.dup, 1) := by decide +kernel
theorem dX13_init_1434 : decode cX13_init 1434 = .ok (.iconst 2, 1) := by decide +kernel
theorem dX13_init_1435 : decode cX13_init 1435 = .ok (.bipush 120, 2) := by decide +kernel
theorem dX13_init_1437 : decode cX13_init 1437 = .ok (.castore, 1) := by decide +kernel
theorem dX13_init_1438 : decode cX13_init 1438 = .ok (.putfield 216, 3) := by decide +kernel
theorem dX13_init_1441 : decode cX13_init 1441 = .ok (.aload_n 0, 1) := by decide +kernel
theorem dX13_init_1442 : decode cX13_init 1442 = .ok (.iconst 4, 1) := by decide +kernel
theorem dX13_init_1443 : decode cX13_init 1443 = .ok (.newarray .char, 2) := by decide +kernel
theorem dX13_init_1445 : decode cX13_init 1445 = .ok (.dup, 1) := by decide +kernel
theorem dX13_init_1446 : decode cX13_init 1446 = .ok (.iconst 0, 1) := by decide +kernel
theorem dX13_init_1447 : decode cX13_init 1447 = .ok (.bipush 104, 2) := by decide +kernel
theorem dX13_init_1449 : decode cX13_init 1449 = .ok (.castore, 1) := by decide +kernel
theorem dX13_init_1450 : decode cX13_init 1450 = .ok (.dup, 1) := by decide +kernel
theorem dX13_init_1451 : decode cX13_init 1451 = .ok (.iconst 1, 1) := by decide +kernel
theorem dX13_init_1452 : decode cX13_init 1452 = .ok (.bipush 111, 2) := by decide +kernel
theorem dX13_init_1454 : decode cX13_init 1454 = .ok (.castore, 1) := by decide +kernel
theorem dX13_init_1455 : decode cX13_init 1455 = .ok (.dup, 1) := by decide +kernel
theorem dX13_init_1456 : decode cX13_init 1456 = .ok (.iconst 2, 1) := by decide +kernel
theorem dX13_init_1457 : decode cX13_init 1457 = .ok (.bipush 117, 2) := by decide +kernel
theorem dX13_init_1459 : decode cX13_init 1459 = .ok (.castore, 1) := by decide +kernel
theorem dX13_init_1460 : decode cX13_init 1460 = .ok (.dup, 1) := by decide +kernel
theorem dX13_init_1461 : decode cX13_init 1461 = .ok (.iconst 3, 1) := by decide +kernel
theorem dX13_init_1462 : decode cX13_init 1462 = .ok (.bipush 114, 2) := by decide +kernel
theorem dX13_init_1464 : decode cX13_init 1464 = .ok (.castore, 1) := by decide +kernel
theorem dX13_init_1465 : decode cX13_init 1465 = .ok (.putfield 219, 3) := by decide +kernel
theorem dX13_init_1468 : decode cX13_init 1468 = .ok (.aload_n 0, 1) := by decide +kernel
theorem dX13_init_1469 : decode cX13_init 1469 = .ok (.iconst 5, 1) := by decide +kernel
theorem dX13_init_1470 : decode cX13_init 1470 = .ok (.newarray .char, 2) := by decide +kernel
theorem dX13_init_1472 : decode cX13_init 1472 = .ok (.dup, 1) := by decide +kernel
theorem dX13_init_1473 : decode cX13_init 1473 = .ok (.iconst 0, 1) := by decide +kernel
theorem dX13_init_1474 : decode cX13_init 1474 = .ok (.bipush 110, 2) := by decide +kernel
theorem dX13_init_1476 : decode cX13_init 1476 = .ok (.castore, 1) := by decide +kernel
theorem dX13_init_1477 : decode cX13_init 1477 = .ok (.dup, 1) := by decide +kernel
theorem dX13_init_1478 : decode cX13_init 1478 = .ok (.iconst 1, 1) := by decide +kernel
theorem dX13_init_1479 : decode cX13_init 1479 = .ok (.bipush 105, 2) := by decide +kernel
theorem dX13_init_1481 : decode cX13_init 1481 = .ok (.castore, 1) := by decide +kernel
theorem dX13_init_1482 : decode cX13_init 1482 = .ok (.dup, 1) := by decide +kernel
theorem dX13_init_1483 : decode cX13_init 1483 = .ok (.iconst 2, 1) := by decide +kernel
theorem dX13_init_1484 : decode cX13_init 1484 = .ok (.bipush 103, 2) := by decide +kernel
theorem dX13_init_1486 : decode cX13_init 1486 = .ok (.castore, 1) := by decide +kernel
theorem dX13_init_1487 : decode cX13_init 1487 = .ok (.dup, 1) := by decide +kernel
theorem dX13_init_1488 : decode cX13_init 1488 = .ok (.iconst 3, 1) := by decide +kernel
theorem dX13_init_1489 : decode cX13_init 1489 = .ok (.bipush 104, 2) := by decide +kernel
theorem dX13_init_1491 : decode cX13_init 1491 = .ok (.castore, 1) := by decide +kernel
theorem dX13_init_1492 : decode cX13_init 1492 = .ok (.dup, 1) := by decide +kernel
theorem dX13_init_1493 : decode cX13_init 1493 = .ok (.iconst 4, 1) := by decide +kernel
theorem dX13_init_1494 : decode cX13_init 1494 = .ok (.bipush 116, 2) := by decide +kernel
theorem dX13_init_1496 : decode cX13_init 1496 = .ok (.castore, 1) := by decide +kernel
theorem dX13_init_1497 : decode cX13_init 1497 = .ok (.putfield 222, 3) := by decide +kernel
theorem dX13_init_1500 : decode cX13_init 1500 = .ok (.aload_n 0, 1) := by decide +kernel
theorem dX13_init_1501 : decode cX13_init 1501 = .ok (.bipush 6, 2) := by decide +kernel
theorem dX13_init_1503 : decode cX13_init 1503 = .ok (.newarray .char, 2) := by decide +kernel
theorem dX13_init_1505 : decode cX13_init 1505 = .ok (.dup, 1) := by decide +kernel
theorem dX13_init_1506 : decode cX13_init 1506 = .ok (.iconst 0, 1) := by decide +kernel
theorem dX13_init_1507 : decode cX13_init 1507 = .ok (.bipush 99, 2) := by decide +kernel
theorem dX13_init_1509 : decode cX13_init 1509 = .ok (.castore, 1) := by decide +kernel
theorem dX13_init_1510 : decode cX13_init 1510 = .ok (.dup, 1) := by decide +kernel
theorem dX13_init_1511 : decode cX13_init 1511 = .ok (.iconst 1, 1) := by decide +kernel
theorem dX13_init_1512 : decode cX13_init 1512 = .ok (.bipush 111, 2) := by decide +kernel
theorem dX13_init_1514 : decode cX13_init 1514 = .ok (.castore, 1) := by decide +kernel
theorem dX13_init_1515 : decode cX13_init 1515 = .ok (.dup, 1) := by decide +kernel
theorem dX13_init_1516 : decode cX13_init 1516 = .ok (.iconst 2, 1) := by decide +kernel
theorem dX13_init_1517 : decode cX13_init 1517 = .ok (.bipush 108, 2) := by decide +kernel
theorem dX13_init_1519 : decode cX13_init 1519 = .ok (.castore, 1) := by decide +kernel
theorem dX13_init_1520 : decode cX13_init 1520 = .ok (.dup, 1) := by decide +kernel
theorem dX13_init_1521 : decode cX13_init 1521 = .ok (.iconst 3, 1) := by decide +kernel
theorem dX13_init_1522 : decode cX13_init 1522 = .ok (.bipush 117, 2) := by decide +kernel
theorem dX13_init_1524 : decode cX13_init 1524 = .ok (.castore, 1) := by decide +kernel
theorem dX13_init_1525 : decode cX13_init 1525 = .ok (.dup, 1) := by decide +kernel
theorem dX13_init_1526 : decode cX13_init 1526 = .ok (.iconst 4, 1) := by decide +kernel
theorem dX13_init_1527 : decode cX13_init 1527 = .ok (.bipush 109, 2) := by decide +kernel
theorem dX13_init_1529 : decode cX13_init 1529 = .ok (.castore, 1) := by decide +kernel
theorem dX13_init_1530 : decode cX13_init 1530 = .ok (.dup, 1) := by decide +kernel
theorem dX13_init_1531 : decode cX13_init 1531 = .ok (.iconst 5, 1) := by decide +kernel
theorem dX13_init_1532 : decode cX13_init 1532 = .ok (.bipush 110, 2) := by decide +kernel
theorem dX13_init_1534 : decode cX13_init 1534 = .ok (.castore, 1) := by decide +kernel
theorem dX13_init_1535 : decode cX13_init 1535 = .ok (.putfield 225, 3) := by decide +kernel
theorem dX13_init_1538 : decode cX13_init 1538 = .ok (.aload_n 0, 1) := by decide +kernel
theorem dX13_init_1539 : decode cX13_init 1539 = .ok (.iconst 3, 1) := by decide +kernel
theorem dX13_init_1540 : decode cX13_init 1540 = .ok (.newarray .char, 2) := by decide +kernel
theorem dX13_init_1542 : decode cX13_init 1542 = .ok (.dup, 1) := by decide +kernel
theorem dX13_init_1543 : decode cX13_init 1543 = .ok (.iconst 0, 1) := by decide +kernel
theorem dX13_init_1544 : decode cX13_init 1544 = .ok (.bipush 114, 2) := by decide +kernel
theorem dX13_init_1546 : decode cX13_init 1546 = .ok (.castore, 1) := by decide +kernel
theorem dX13_init_1547 : decode cX13_init 1547 = .ok (.dup, 1) := by decide +kernel
theorem dX13_init_1548 : decode cX13_init 1548 = .ok (.iconst 1, 1) := by decide +kernel
theorem dX13_init_1549 : decode cX13_init 1549 = .ok (.bipush 111, 2) := by decide +kernel
theorem dX13_init_1551 : decode cX13_init 1551 = .ok (.castore, 1) := by decide +kernel
theorem dX13_init_1552 : decode cX13_init 1552 = .ok (.dup, 1) := by decide +kernel
theorem dX13_init_1553 : decode cX13_init 1553 = .ok (.iconst 2, 1) := by decide +kernel
theorem dX13_init_1554 : decode cX13_init 1554 = .ok (.bipush 119, 2) := by decide +kernel
theorem dX13_init_1556 : decode cX13_init 1556 = .ok (.castore, 1) := by decide +kernel
theorem dX13_init_1557 : decode cX13_init 1557 = .ok (.putfield 228, 3) := by decide +kernel
theorem dX13_init_1560 : decode cX13_init 1560 = .ok (.aload_n 0, 1) := by decide +kernel
theorem dX13_init_1561 : decode cX13_init 1561 = .ok (.bipush 6, 2) := by decide +kernel
theorem dX13_init_1563 : decode cX13_init 1563 = .ok (.newarray .char, 2) := by decide +kernel
theorem dX13_init_1565 : decode cX13_init 1565 = .ok (.dup, 1) := by decide +kernel
theorem dX13_init_1566 : decode cX13_init 1566 = .ok (.iconst 0, 1) := by decide +kernel
theorem dX13_init_1567 : decode cX13_init 1567 = .ok (.bipush 109, 2) := by decide +kernel
theorem dX13_init_1569 : decode cX13_init 1569 = .ok (.castore, 1) := by decide +kernel
theorem dX13_init_1570 : decode cX13_init 1570 = .ok (.dup, 1) := by decide +kernel
theorem dX13_init_1571 : decode cX13_init 1571 = .ok (.iconst 1, 1) := by decide +kernel
theorem dX13_init_1572 : decode cX13_init 1572 = .ok (.bipush 97, 2) := by decide +kernel
theorem dX13_init_1574 : decode cX13_init 1574 = .ok (.castore, 1) := by decide +kernel
theorem dX13_init_1575 : decode cX13_init 1575 = .ok (.dup, 1) := by decide +kernel
theorem dX13_init_1576 : decode cX13_init 1576 = .ok (.iconst 2, 1) := by decide +kernel
theorem dX13_init_1577 : decode cX13_init 1577 = .ok (.bipush 110, 2) := by decide +kernel
theorem dX13_init_1579 : decode cX13_init 1579 = .ok (.castore, 1) := by decide +kernel
theorem dX13_init_1580 : decode cX13_init 1580 = .ok (.dup, 1) := by decide +kernel
theorem dX13_init_1581 : decode cX13_init 1581 = .ok (.iconst 3, 1) := by decide +kernel
theorem dX13_init_1582 : decode cX13_init 1582 = .ok (.bipush 110, 2) := by decide +kernel
theorem dX13_init_1584 : decode cX13_init 1584 = .ok (.castore, 1) := by decide +kernel
theorem dX13_init_1585 : decode cX13_init 1585 = .ok (.dup, 1) := by decide +kernel
theorem dX13_init_1586 : decode cX13_init 1586 = .ok (.iconst 4, 1) := by decide +kernel
theorem dX13_init_1587 : decode cX13_init 1587 = .ok (.bipush 101, 2) := by decide +kernel
theorem dX13_init_1589 : decode cX13_init 1589 = .ok (.castore, 1) := by decide +kernel
theorem dX13_init_1590 : decode cX13_init 1590 = .ok (.dup, 1) := by decide +kernel
theorem dX13_init_1591 : decode cX13_init 1591 = .ok (.iconst 5, 1) := by decide +kernel
theorem dX13_init_1592 : decode cX13_init 1592 = .ok (.bipush 114, 2) := by decide +kernel
theorem dX13_init_1594 : decode cX13_init 1594 = .ok (.castore, 1) := by decide +kernel
theorem dX13_init_1595 : decode cX13_init 1595 = .ok (.putfield 231, 3) := by decide +kernel
theorem dX13_init_1598 : decode cX13_init 1598 = .ok (.aload_n 0, 1) := by decide +kernel
theorem dX13_init_1599 : decode cX13_init 1599 = .ok (.iconst 3, 1) := by decide +kernel
theorem dX13_init_1600 : decode cX13_init 1600 = .ok (.newarray .char, 2) := by decide +kernel
theorem dX13_init_1602 : decode cX13_init 1602 = .ok (.dup, 1) := by decide +kernel
theorem dX13_init_1603 : decode cX13_init 1603 = .ok (.iconst 0, 1) := by decide +kernel
theorem dX13_init_1604 : decode cX13_init 1604 = .ok (.bipush 109, 2) := by decide +kernel
theorem dX13_init_1606 : decode cX13_init 1606 = .ok (.castore, 1) := by decide +kernel
theorem dX13_init_1607 : decode cX13_init 1607 = .ok (.dup, 1) := by decide +kernel
theorem dX13_init_1608 : decode cX13_init 1608 = .ok (.iconst 1, 1) := by decide +kernel
theorem dX13_init_1609 : decode cX13_init 1609 = .ok (.bipush 101, 2) := by decide +kernel
theorem dX13_init_1611 : decode cX13_init 1611 = .ok (.castore, 1) := by decide +kernel
theorem dX13_init_1612 : decode cX13_init 1612 = .ok (.dup, 1) := by decide +kernel
theorem dX13_init_1613 : decode cX13_init 1613 = .ok (.iconst 2, 1) := by decide +kernel
theorem dX13_init_1614 : decode cX13_init 1614 = .ok (.bipush 116, 2) := by decide +kernel
theorem dX13_init_1616 : decode cX13_init 1616 = .ok (.castore, 1) := by decide +kernel
theorem dX13_init_1617 : decode cX13_init 1617 = .ok (.putfield 234, 3) := by decide +kernel
theorem dX13_init_1620 : decode cX13_init 1620 = .ok (.aload_n 0, 1) := by decide +kernel
theorem dX13_init_1621 : decode cX13_init 1621 = .ok (.iconst 5, 1) := by decide +kernel
theorem dX13_init_1622 : decode cX13_init 1622 = .ok (.newarray .char, 2) := by decide +kernel
theorem dX13_init_1624 : decode cX13_init 1624 = .ok (.dup, 1) := by decide +kernel
theorem dX13_init_1625 : decode cX13_init 1625 = .ok (.iconst 0, 1) := by decide +kernel
theorem dX13_init_1626 : decode cX13_init 1626 = .ok (.bipush 112, 2) := by decide +kernel
theorem dX13_init_1628 : decode cX13_init 1628 = .ok (.castore, 1) := by decide +kernel
theorem dX13_init_1629 : decode cX13_init 1629 = .ok (.dup, 1) := by decide +kernel
theorem dX13_init_1630 : decode cX13_init 1630 = .ok (.iconst 1, 1) := by decide +kernel
theorem dX13_init_1631 : decode cX13_init 1631 = .ok (.bipush 117, 2) := by decide +kernel
theorem dX13_init_1633 : decode cX13_init 1633 = .ok (.castore, 1) := by decide +kernel
theorem dX13_init_1634 : decode cX13_init 1634 = .ok (.dup, 1) := by decide +kernel
theorem dX13_init_1635 : decode cX13_init 1635 = .ok (.iconst 2, 1) := by decide +kernel
theorem dX13_init_1636 : decode cX13_init 1636 = .ok (.bipush 114, 2) := by decide +kernel
theorem dX13_init_1638 : decode cX13_init 1638 = .ok (.castore, 1) := by decide +kernel
theorem dX13_init_1639 : decode cX13_init 1639 = .ok (.dup, 1) := by decide +kernel
theorem dX13_init_1640 : decode cX13_init 1640 = .ok (.iconst 3, 1) := by decide +kernel
theorem dX13_init_1641 : decode cX13_init 1641 = .ok (.bipush 115, 2) := by decide +kernel
theorem dX13_init_1643 : decode cX13_init 1643 = .ok (.castore, 1) := by decide +kernel
theorem dX13_init_1644 : decode cX13_init 1644 = .ok (.dup, 1) := by decide +kernel
theorem dX13_init_1645 : decode cX13_init 1645 = .ok (.iconst 4, 1) := by decide +kernel
theorem dX13_init_1646 : decode cX13_init 1646 = .ok (.bipush 101, 2) := by decide +kernel
theorem dX13_init_1648 : decode cX13_init 1648 = .ok (.castore, 1) := by decide +kernel
theorem dX13_init_1649 : decode cX13_init 1649 = .ok (.putfield 237, 3) := by decide +kernel
theorem dX13_init_1652 : decode cX13_init 1652 = .ok (.aload_n 0, 1) := by decide +kernel
theorem dX13_init_1653 : decode cX13_init 1653 = .ok (.bipush 6, 2) := by decide +kernel
theorem dX13_init_1655 : decode cX13_init 1655 = .ok (.newarray .char, 2) := by decide +kernel
theorem dX13_init_1657 : decode cX13_init 1657 = .ok (.dup, 1) := by decide +kernel
theorem dX13_init_1658 : decode cX13_init 1658 = .ok (.iconst 0, 1) := by decide +kernel
theorem dX13_init_1659 : decode cX13_init 1659 = .ok (.bipush 110, 2) := by decide +kernel
theorem dX13_init_1661 : decode cX13_init 1661 = .ok (.castore, 1) := by decide +kernel
theorem dX13_init_1662 : decode cX13_init 1662 = .ok (.dup, 1) := by decide +kernel
theorem dX13_init_1663 : decode cX13_init 1663 = .ok (.iconst 1, 1) := by decide +kernel
theorem dX13_init_1664 : decode cX13_init 1664 = .ok (.bipush 117, 2) := by decide +kernel
theorem dX13_init_1666 : decode cX13_init 1666 = .ok (.castore, 1) := by decide +kernel
theorem dX13_init_1667 : decode cX13_init 1667 = .ok (.dup, 1) := by decide +kernel
theorem dX13_init_1668 : decode cX13_init 1668 = .ok (.iconst 2, 1) := by decide +kernel
theorem dX13_init_1669 : decode cX13_init 1669 = .ok (.bipush 109, 2) := by decide +kernel
theorem dX13_init_1671 : decode cX13_init 1671 = .ok (.castore, 1) := by decide +kernel
theorem dX13_init_1672 : decode cX13_init 1672 = .ok (.dup, 1) := by decide +kernel
theorem dX13_init_1673 : decode cX13_init 1673 = .ok (.iconst 3, 1) := by decide +kernel
theorem dX13_init_1674 : decode cX13_init 1674 = .ok (.bipush 98, 2) := by decide +kernel
theorem dX13_init_1676 : decode cX13_init 1676 = .ok (.castore, 1) := by decide +kernel
theorem dX13_init_1677 : decode cX13_init 1677 = .ok (.dup, 1) := by decide +kernel
theorem dX13_init_1678 : decode cX13_init 1678 = .ok (.iconst 4, 1) := by decide +kernel
theorem dX13_init_1679 : decode cX13_init 1679 = .ok (.bipush 101, 2) := by decide +kernel
theorem dX13_init_1681 : decode cX13_init 1681 = .ok (.castore, 1) := by decide +kernel
theorem dX13_init_1682 : decode cX13_init 1682 = .ok (.dup, 1) := by decide +kernel
theorem dX13_init_1683 : decode cX13_init 1683 = .ok (.iconst 5, 1) := by decide +kernel
theorem dX13_init_1684 : decode cX13_init 1684 = .ok (.bipush 114, 2) := by decide +kernel
theorem dX13_init_1686 : decode cX13_init 1686 = .ok (.castore, 1) := by decide +kernel
theorem dX13_init_1687 : decode cX13_init 1687 = .ok (.putfield 240, 3) := by decide +kernel
theorem dX13_init_1690 : decode cX13_init 1690 = .ok (.aload_n 0, 1) := by decide +kernel
theorem dX13_init_1691 : decode cX13_init 1691 = .ok (.iconst 4, 1) := by decide +kernel
theorem dX13_init_1692 : decode cX13_init 1692 = .ok (.newarray .char, 2) := by decide +kernel
theorem dX13_init_1694 : decode cX13_init 1694 = .ok (.dup, 1) := by decide +kernel
theorem dX13_init_1695 : decode cX13_init 1695 = .ok (.iconst 0, 1) := by decide +kernel
theorem dX13_init_1696 : decode cX13_init 1696 = .ok (.bipush 103, 2) := by decide +kernel
theorem dX13_init_1698 : decode cX13_init 1698 = .ok (.castore, 1) := by decide +kernel
theorem dX13_init_1699 : decode cX13_init 1699 = .ok (.dup, 1) := by decide +kernel
theorem dX13_init_1700 : decode cX13_init 1700 = .ok (.iconst 1, 1) := by decide +kernel
theorem dX13_init_1701 : decode cX13_init 1701 = .ok (.bipush 111, 2) := by decide +kernel
theorem dX13_init_1703 : decode cX13_init 1703 = .ok (.castore, 1) := by decide +kernel
theorem dX13_init_1704 : decode cX13_init 1704 = .ok (.dup, 1) := by decide +kernel
theorem dX13_init_1705 : decode cX13_init 1705 = .ok (.iconst 2, 1) := by decide +kernel
theorem dX13_init_1706 : decode cX13_init 1706 = .ok (.bipush 110, 2) := by decide +kernel
theorem dX13_init_1708 : decode cX13_init 1708 = .ok (.castore, 1) := by decide +kernel
theorem dX13_init_1709 : decode cX13_init 1709 = .ok (.dup, 1) := by decide +kernel
theorem dX13_init_1710 : decode cX13_init 1710 = .ok (.iconst 3, 1) := by decide +kernel
theorem dX13_init_1711 : decode cX13_init 1711 = .ok (.bipush 101, 2) := by decide +kernel
theorem dX13_init_1713 : decode cX13_init 1713 = .ok (.castore, 1) := by decide +kernel
theorem dX13_init_1714 : decode cX13_init 1714 = .ok (.putfield 243, 3) := by decide +kernel
theorem dX13_init_1717 : decode cX13_init 1717 = .ok (.aload_n 0, 1) := by decide +kernel
theorem dX13_init_1718 : decode cX13_init 1718 = .ok (.iconst 4, 1) := by decide +kernel
theorem dX13_init_1719 : decode cX13_init 1719 = .ok (.newarray .char, 2) := by decide +kernel
theorem dX13_init_1721 : decode cX13_init 1721 = .ok (.dup, 1) := by decide +kernel
theorem dX13_init_1722 : decode cX13_init 1722 = .ok (.iconst 0, 1) := by decide +kernel
theorem dX13_init_1723 : decode cX13_init 1723 = .ok (.bipush 110, 2) := by decide +kernel
theorem dX13_init_1725 : decode cX13_init 1725 = .ok (.castore, 1) := by decide +kernel
theorem dX13_init_1726 : decode cX13_init 1726 = .ok (.dup, 1) := by decide +kernel
theorem dX13_init_1727 : decode cX13_init 1727 = .ok (.iconst 1, 1) := by decide +kernel
theorem dX13_init_1728 : decode cX13_init 1728 = .ok (.bipush 101, 2) := by decide +kernel
theorem dX13_init_1730 : decode cX13_init 1730 = .ok (.castore, 1) := by decide +kernel
theorem dX13_init_1731 : decode cX13_init 1731 = .ok (.dup, 1) := by decide +kernel
theorem dX13_init_1732 : decode cX13_init 1732 = .ok (.iconst 2, 1) := by decide +kernel
theorem dX13_init_1733 : decode cX13_init 1733 = .ok (.bipush 97, 2) := by decide +kernel
theorem dX13_init_1735 : decode cX13_init 1735 = .ok (.castore, 1) := by decide +kernel
theorem dX13_init_1736 : decode cX13_init 1736 = .ok (.dup, 1) := by decide +kernel
theorem dX13_init_1737 : decode cX13_init 1737 = .ok (.iconst 3, 1) := by decide +kernel
theorem dX13_init_1738 : decode cX13_init 1738 = .ok (.bipush 114, 2) := by decide +kernel
theorem dX13_init_1740 : decode cX13_init 1740 = .ok (.castore, 1) := by decide +kernel
theorem dX13_init_1741 : decode cX13_init 1741 = .ok (.putfield 246, 3) := by decide +kernel
theorem dX13_init_1744 : decode cX13_init 1744 = .ok (.aload_n 0, 1) := by decide +kernel
theorem dX13_init_1745 : decode cX13_init 1745 = .ok (.sipush 1700, 3) := by decide +kernel
theorem dX13_init_1748 : decode cX13_init 1748 = .ok (.newarray .int, 2) := by decide +kernel
theorem dX13_init_1750 : decode cX13_init 1750 = .ok (.putfield 249, 3) := by decide +kernel
theorem dX13_init_1753 : decode cX13_init 1753 = .ok (.aload_n 0, 1) := by decide +kernel
theorem dX13_init_1754 : decode cX13_init 1754 = .ok (.sipush 1700, 3) := by decide +kernel
theorem dX13_init_1757 : decode cX13_init 1757 = .ok (.newarray .int, 2) := by decide +kernel
theorem dX13_init_1759 : decode cX13_init 1759 = .ok (.putfield 252, 3) := by decide +kernel
theorem dX13_init_1762 : decode cX13_init 1762 = .ok (.aload_n 0, 1) := by decide +kernel
theorem dX13_init_1763 : decode cX13_init 1763 = .ok (.sipush 1700, 3) := by decide +kernel
theorem dX13_init_1766 : decode cX13_init 1766 = .ok (.newarray .long, 2) := by decide +kernel
theorem dX13_init_1768 : decode cX13_init 1768 = .ok (.putfield 255, 3) := by decide +kernel
theorem dX13_init_1771 : decode cX13_init 1771 = .ok (.aload_n 0, 1) := by decide +kernel
theorem dX13_init_1772 : decode cX13_init 1772 = .ok (.bipush 40, 2) := by decide +kernel
theorem dX13_init_1774 : decode cX13_init 1774 = .ok (.newarray .int, 2) := by decide +kernel
theorem dX13_init_1776 : decode cX13_init 1776 = .ok (.putfield 258, 3) := by decide +kernel
theorem dX13_init_1779 : decode cX13_init 1779 = .ok (.return_, 1) := by decide +kernel
