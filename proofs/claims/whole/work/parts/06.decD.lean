theorem dX5_init_0 : decode cX5_init 0 = .ok (.aload_n 0, 1) := by decide +kernel
theorem dX5_init_1 : decode cX5_init 1 = .ok (.invokespecial 1, 3) := by decide +kernel
theorem dX5_init_4 : decode cX5_init 4 = .ok (.aload_n 0, 1) := by decide +kernel
theorem dX5_init_5 : decode cX5_init 5 = .ok (.bipush 8, 2) := by decide +kernel
theorem dX5_init_7 : decode cX5_init 7 = .ok (.newarray .int, 2) := by decide +kernel
theorem dX5_init_9 : decode cX5_init 9 = .ok (.dup, 1) := by decide +kernel
theorem dX5_init_10 : decode cX5_init 10 = .ok (.iconst 0, 1) := by decide +kernel
theorem dX5_init_11 : decode cX5_init 11 = .ok (.iconst 0, 1) := by decide +kernel
theorem dX5_init_12 : decode cX5_init 12 = .ok (.iastore, 1) := by decide +kernel
theorem dX5_init_13 : decode cX5_init 13 = .ok (.dup, 1) := by decide +kernel
theorem dX5_init_14 : decode cX5_init 14 = .ok (.iconst 1, 1) := by decide +kernel
theorem dX5_init_15 : decode cX5_init 15 = .ok (.iconst 0, 1) := by decide +kernel
theorem dX5_init_16 : decode cX5_init 16 = .ok (.iastore, 1) := by decide +kernel
theorem dX5_init_17 : decode cX5_init 17 = .ok (.dup, 1) := by decide +kernel
theorem dX5_init_18 : decode cX5_init 18 = .ok (.iconst 2, 1) := by decide +kernel
theorem dX5_init_19 : decode cX5_init 19 = .ok (.iconst 4, 1) := by decide +kernel
theorem dX5_init_20 : decode cX5_init 20 = .ok (.iastore, 1) := by decide +kernel
theorem dX5_init_21 : decode cX5_init 21 = .ok (.dup, 1) := by decide +kernel
theorem dX5_init_22 : decode cX5_init 22 = .ok (.iconst 3, 1) := by decide +kernel
theorem dX5_init_23 : decode cX5_init 23 = .ok (.iconst 0, 1) := by decide +kernel
theorem dX5_init_24 : decode cX5_init 24 = .ok (.iastore, 1) := by decide +kernel
theorem dX5_init_25 : decode cX5_init 25 = .ok (.dup, 1) := by decide +kernel
theorem dX5_init_26 : decode cX5_init 26 = .ok (.iconst 4, 1) := by decide +kernel
theorem dX5_init_27 : decode cX5_init 27 = .ok (.iconst 2, 1) := by decide +kernel
theorem dX5_init_28 : decode cX5_init 28 = .ok (.iastore, 1) := by decide +kernel
theorem dX5_init_29 : decode cX5_init 29 = .ok (.dup, 1) := by decide +kernel
theorem dX5_init_30 : decode cX5_init 30 = .ok (.iconst 5, 1) := by decide +kernel
theorem dX5_init_31 : decode cX5_init 31 = .ok (.iconst 0, 1) := by decide +kernel
theorem dX5_init_32 : decode cX5_init 32 = .ok (.iastore, 1) := by decide +kernel
theorem dX5_init_33 : decode cX5_init 33 = .ok (.dup, 1) := by decide +kernel
theorem dX5_init_34 : decode cX5_init 34 = .ok (.bipush 6, 2) := by decide +kernel
theorem dX5_init_36 : decode cX5_init 36 = .ok (.iconst 1, 1) := by decide +kernel
theorem dX5_init_37 : decode cX5_init 37 = .ok (.iastore, 1) := by decide +kernel
theorem dX5_init_38 : decode cX5_init 38 = .ok (.dup, 1) := by decide +kernel
theorem dX5_init_39 : decode cX5_init 39 = .ok (.bipush 7, 2) := by decide +kernel
theorem dX5_init_41 : decode cX5_init 41 = .ok (.iconst 0, 1) := by decide +kernel
theorem dX5_init_42 : decode cX5_init 42 = .ok (.iastore, 1) := by decide +kernel
theorem dX5_init_43 : decode cX5_init 43 = .ok (.putfield 7, 3) := by decide +kernel
theorem dX5_init_46 : decode cX5_init 46 = .ok (.aload_n 0, 1) := by decide +kernel
theorem dX5_init_47 : decode cX5_init 47 = .ok (.bipush 8, 2) := by decide +kernel
theorem dX5_init_49 : decode cX5_init 49 = .ok (.newarray .int, 2) := by decide +kernel
theorem dX5_init_51 : decode cX5_init 51 = .ok (.dup, 1) := by decide +kernel
theorem dX5_init_52 : decode cX5_init 52 = .ok (.iconst 0, 1) := by decide +kernel
theorem dX5_init_53 : decode cX5_init 53 = .ok (.iconst 1, 1) := by decide +kernel
theorem dX5_init_54 : decode cX5_init 54 = .ok (.iastore, 1) := by decide +kernel
theorem dX5_init_55 : decode cX5_init 55 = .ok (.dup, 1) := by decide +kernel
theorem dX5_init_56 : decode cX5_init 56 = .ok (.iconst 1, 1) := by decide +kernel
theorem dX5_init_57 : decode cX5_init 57 = .ok (.bipush 8, 2) := by decide +kernel
theorem dX5_init_59 : decode cX5_init 59 = .ok (.iastore, 1) := by decide +kernel
theorem dX5_init_60 : decode cX5_init 60 = .ok (.dup, 1) := by decide +kernel
theorem dX5_init_61 : decode cX5_init 61 = .ok (.iconst 2, 1) := by decide +kernel
theorem dX5_init_62 : decode cX5_init 62 = .ok (.bipush 8, 2) := by decide +kernel
theorem dX5_init_64 : decode cX5_init 64 = .ok (.iastore, 1) := by decide +kernel
theorem dX5_init_65 : decode cX5_init 65 = .ok (.dup, 1) := by decide +kernel
theorem dX5_init_66 : decode cX5_init 66 = .ok (.iconst 3, 1) := by decide +kernel
theorem dX5_init_67 : decode cX5_init 67 = .ok (.iconst 4, 1) := by decide +kernel
theorem dX5_init_68 : decode cX5_init 68 = .ok (.iastore, 1) := by decide +kernel
theorem dX5_init_69 : decode cX5_init 69 = .ok (.dup, 1) := by decide +kernel
theorem dX5_init_70 : decode cX5_init 70 = .ok (.iconst 4, 1) := by decide +kernel
theorem dX5_init_71 : decode cX5_init 71 = .ok (.iconst 4, 1) := by decide +kernel
theorem dX5_init_72 : decode cX5_init 72 = .ok (.iastore, 1) := by decide +kernel
theorem dX5_init_73 : decode cX5_init 73 = .ok (.dup, 1) := by decide +kernel
theorem dX5_init_74 : decode cX5_init 74 = .ok (.iconst 5, 1) := by decide +kernel
theorem dX5_init_75 : decode cX5_init 75 = .ok (.iconst 2, 1) := by decide +kernel
theorem dX5_init_76 : decode cX5_init 76 = .ok (.iastore, 1) := by decide +kernel
theorem dX5_init_77 : decode cX5_init 77 = .ok (.dup, 1) := by decide +kernel
theorem dX5_init_78 : decode cX5_init 78 = .ok (.bipush 6, 2) := by decide +kernel
theorem dX5_init_80 : decode cX5_init 80 = .ok (.iconst 2, 1) := by decide +kernel
theorem dX5_init_81 : decode cX5_init 81 = .ok (.iastore, 1) := by decide +kernel
theorem dX5_init_82 : decode cX5_init 82 = .ok (.dup, 1) := by decide +kernel
theorem dX5_init_83 : decode cX5_init 83 = .ok (.bipush 7, 2) := by decide +kernel
theorem dX5_init_85 : decode cX5_init 85 = .ok (.iconst 1, 1) := by decide +kernel
theorem dX5_init_86 : decode cX5_init 86 = .ok (.iastore, 1) := by decide +kernel
theorem dX5_init_87 : decode cX5_init 87 = .ok (.putfield 13, 3) := by decide +kernel
theorem dX5_init_90 : decode cX5_init 90 = .ok (.aload_n 0, 1) := by decide +kernel
theorem dX5_init_91 : decode cX5_init 91 = .ok (.bipush 8, 2) := by decide +kernel
theorem dX5_init_93 : decode cX5_init 93 = .ok (.newarray .int, 2) := by decide +kernel
theorem dX5_init_95 : decode cX5_init 95 = .ok (.dup, 1) := by decide +kernel
theorem dX5_init_96 : decode cX5_init 96 = .ok (.iconst 0, 1) := by decide +kernel
theorem dX5_init_97 : decode cX5_init 97 = .ok (.iconst 0, 1) := by decide +kernel
theorem dX5_init_98 : decode cX5_init 98 = .ok (.iastore, 1) := by decide +kernel
theorem dX5_init_99 : decode cX5_init 99 = .ok (.dup, 1) := by decide +kernel
theorem dX5_init_100 : decode cX5_init 100 = .ok (.iconst 1, 1) := by decide +kernel
theorem dX5_init_101 : decode cX5_init 101 = .ok (.iconst 0, 1) := by decide +kernel
theorem dX5_init_102 : decode cX5_init 102 = .ok (.iastore, 1) := by decide +kernel
theorem dX5_init_103 : decode cX5_init 103 = .ok (.dup, 1) := by decide +kernel
theorem dX5_init_104 : decode cX5_init 104 = .ok (.iconst 2, 1) := by decide +kernel
theorem dX5_init_105 : decode cX5_init 105 = .ok (.iconst 0, 1) := by decide +kernel
theorem dX5_init_106 : decode cX5_init 106 = .ok (.iastore, 1) := by decide +kernel
theorem dX5_init_107 : decode cX5_init 107 = .ok (.dup, 1) := by decide +kernel
theorem dX5_init_108 : decode cX5_init 108 = .ok (.iconst 3, 1) := by decide +kernel
theorem dX5_init_109 : decode cX5_init 109 = .ok (.iconst 4, 1) := by decide +kernel
theorem dX5_init_110 : decode cX5_init 110 = .ok (.iastore, 1) := by decide +kernel
theorem dX5_init_111 : decode cX5_init 111 = .ok (.dup, 1) := by decide +kernel
theorem dX5_init_112 : decode cX5_init 112 = .ok (.iconst 4, 1) := by decide +kernel
theorem dX5_init_113 : decode cX5_init 113 = .ok (.iconst 0, 1) := by decide +kernel
theorem dX5_init_114 : decode cX5_init 114 = .ok (.iastore, 1) := by decide +kernel
theorem dX5_init_115 : decode cX5_init 115 = .ok (.dup, 1) := by decide +kernel
theorem dX5_init_116 : decode cX5_init 116 = .ok (.iconst 5, 1) := by decide +kernel
theorem dX5_init_117 : decode cX5_init 117 = .ok (.iconst 2, 1) := by decide +kernel
theorem dX5_init_118 : decode cX5_init 118 = .ok (.iastore, 1) := by decide +kernel
theorem dX5_init_119 : decode cX5_init 119 = .ok (.dup, 1) := by decide +kernel
theorem dX5_init_120 : decode cX5_init 120 = .ok (.bipush 6, 2) := by decide +kernel
theorem dX5_init_122 : decode cX5_init 122 = .ok (.iconst 0, 1) := by decide +kernel
theorem dX5_init_123 : decode cX5_init 123 = .ok (.iastore, 1) := by decide +kernel
theorem dX5_init_124 : decode cX5_init 124 = .ok (.dup, 1) := by decide +kernel
theorem dX5_init_125 : decode cX5_init 125 = .ok (.bipush 7, 2) := by decide +kernel
theorem dX5_init_127 : decode cX5_init 127 = .ok (.iconst 1, 1) := by decide +kernel
theorem dX5_init_128 : decode cX5_init 128 = .ok (.iastore, 1) := by decide +kernel
theorem dX5_init_129 : decode cX5_init 129 = .ok (.putfield 16, 3) := by decide +kernel
theorem dX5_init_132 : decode cX5_init 132 = .ok (.aload_n 0, 1) := by decide +kernel
theorem dX5_init_133 : decode cX5_init 133 = .ok (.bipush 8, 2) := by decide +kernel
theorem dX5_init_135 : decode cX5_init 135 = .ok (.newarray .int, 2) := by decide +kernel
theorem dX5_init_137 : decode cX5_init 137 = .ok (.dup, 1) := by decide +kernel
theorem dX5_init_138 : decode cX5_init 138 = .ok (.iconst 0, 1) := by decide +kernel
theorem dX5_init_139 : decode cX5_init 139 = .ok (.iconst 1, 1) := by decide +kernel
theorem dX5_init_140 : decode cX5_init 140 = .ok (.iastore, 1) := by decide +kernel
theorem dX5_init_141 : decode cX5_init 141 = .ok (.dup, 1) := by decide +kernel
theorem dX5_init_142 : decode cX5_init 142 = .ok (.iconst 1, 1) := by decide +kernel
theorem dX5_init_143 : decode cX5_init 143 = .ok (.bipush 8, 2) := by decide +kernel
theorem dX5_init_145 : decode cX5_init 145 = .ok (.iastore, 1) := by decide +kernel
theorem dX5_init_146 : decode cX5_init 146 = .ok (.dup, 1) := by decide +kernel
theorem dX5_init_147 : decode cX5_init 147 = .ok (.iconst 2, 1) := by decide +kernel
theorem dX5_init_148 : decode cX5_init 148 = .ok (.bipush 8, 2) := by decide +kernel
theorem dX5_init_150 : decode cX5_init 150 = .ok (.iastore, 1) := by decide +kernel
theorem dX5_init_151 : decode cX5_init 151 = .ok (.dup, 1) := by decide +kernel
theorem dX5_init_152 : decode cX5_init 152 = .ok (.iconst 3, 1) := by decide +kernel
theorem dX5_init_153 : decode cX5_init 153 = .ok (.bipush 8, 2) := by decide +kernel
theorem dX5_init_155 : decode cX5_init 155 = .ok (.iastore, 1) := by decide +kernel
theorem dX5_init_156 : decode cX5_init 156 = .ok (.dup, 1) := by decide +kernel
theorem dX5_init_157 : decode cX5_init 157 = .ok (.iconst 4, 1) := by decide +kernel
theorem dX5_init_158 : decode cX5_init 158 = .ok (.iconst 4, 1) := by decide +kernel
theorem dX5_init_159 : decode cX5_init 159 = .ok (.iastore, 1) := by decide +kernel
theorem dX5_init_160 : decode cX5_init 160 = .ok (.dup, 1) := by decide +kernel
theorem dX5_init_161 : decode cX5_init 161 = .ok (.iconst 5, 1) := by decide +kernel
theorem dX5_init_162 : decode cX5_init 162 = .ok (.iconst 4, 1) := by decide +kernel
theorem dX5_init_163 : decode cX5_init 163 = .ok (.iastore, 1) := by decide +kernel
theorem dX5_init_164 : decode cX5_init 164 = .ok (.dup, 1) := by decide +kernel
theorem dX5_init_165 : decode cX5_init 165 = .ok (.bipush 6, 2) := by decide +kernel
theorem dX5_init_167 : decode cX5_init 167 = .ok (.iconst 2, 1) := by decide +kernel
theorem dX5_init_168 : decode cX5_init 168 = .ok (.iastore, 1) := by decide +kernel
theorem dX5_init_169 : decode cX5_init 169 = .ok (.dup, 1) := by decide +kernel
theorem dX5_init_170 : decode cX5_init 170 = .ok (.bipush 7, 2) := by decide +kernel
theorem dX5_init_172 : decode cX5_init 172 = .ok (.iconst 2, 1) := by decide +kernel
theorem dX5_init_173 : decode cX5_init 173 = .ok (.iastore, 1) := by decide +kernel
theorem dX5_init_174 : decode cX5_init 174 = .ok (.putfield 19, 3) := by decide +kernel
theorem dX5_init_177 : decode cX5_init 177 = .ok (.aload_n 0, 1) := by decide +kernel
theorem dX5_init_178 : decode cX5_init 178 = .ok (.sipush 1024, 3) := by decide +kernel
theorem dX5_init_181 : decode cX5_init 181 = .ok (.newarray .int, 2) := by decide +kernel
theorem dX5_init_183 : decode cX5_init 183 = .ok (.putfield 22, 3) := by decide +kernel
theorem dX5_init_186 : decode cX5_init 186 = .ok (.aload_n 0, 1) := by decide +kernel
theorem dX5_init_187 : decode cX5_init 187 = .ok (.sipush 1024, 3) := by decide +kernel
theorem dX5_init_190 : decode cX5_init 190 = .ok (.newarray .int, 2) := by decide +kernel
theorem dX5_init_192 : decode cX5_init 192 = .ok (.putfield 25, 3) := by decide +kernel
theorem dX5_init_195 : decode cX5_init 195 = .ok (.aload_n 0, 1) := by decide +kernel
theorem dX5_init_196 : decode cX5_init 196 = .ok (.sipush 140, 3) := by decide +kernel
theorem dX5_init_199 : decode cX5_init 199 = .ok (.newarray .int, 2) := by decide +kernel
theorem dX5_init_201 : decode cX5_init 201 = .ok (.putfield 28, 3) := by decide +kernel
theorem dX5_init_204 : decode cX5_init 204 = .ok (.aload_n 0, 1) := by decide +kernel
theorem dX5_init_205 : decode cX5_init 205 = .ok (.sipush 140, 3) := by decide +kernel
theorem dX5_init_208 : decode cX5_init 208 = .ok (.newarray .int, 2) := by decide +kernel
theorem dX5_init_210 : decode cX5_init 210 = .ok (.putfield 31, 3) := by decide +kernel
theorem dX5_init_213 : decode cX5_init 213 = .ok (.aload_n 0, 1) := by decide +kernel
theorem dX5_init_214 : decode cX5_init 214 = .ok (.sipush 140, 3) := by decide +kernel
theorem dX5_init_217 : decode cX5_init 217 = .ok (.newarray .int, 2) := by decide +kernel
theorem dX5_init_219 : decode cX5_init 219 = .ok (.putfield 34, 3) := by decide +kernel
theorem dX5_init_222 : decode cX5_init 222 = .ok (.aload_n 0, 1) := by decide +kernel
theorem dX5_init_223 : decode cX5_init 223 = .ok (.sipush 256, 3) := by decide +kernel
theorem dX5_init_226 : decode cX5_init 226 = .ok (.newarray .boolean, 2) := by decide +kernel
theorem dX5_init_228 : decode cX5_init 228 = .ok (.putfield 37, 3) := by decide +kernel
theorem dX5_init_231 : decode cX5_init 231 = .ok (.aload_n 0, 1) := by decide +kernel
theorem dX5_init_232 : decode cX5_init 232 = .ok (.sipush 4000, 3) := by decide +kernel
theorem dX5_init_235 : decode cX5_init 235 = .ok (.newarray .int, 2) := by decide +kernel
theorem dX5_init_237 : decode cX5_init 237 = .ok (.putfield 41, 3) := by decide +kernel
theorem dX5_init_240 : decode cX5_init 240 = .ok (.aload_n 0, 1) := by decide +kernel
theorem dX5_init_241 : decode cX5_init 241 = .ok (.iconst 5, 1) := by decide +kernel
theorem dX5_init_242 : decode cX5_init 242 = .ok (.newarray .int, 2) := by decide +kernel
theorem dX5_init_244 : decode cX5_init 244 = .ok (.putfield 44, 3) := by decide +kernel
theorem dX5_init_247 : decode cX5_init 247 = .ok (.aload_n 0, 1) := by decide +kernel
theorem dX5_init_248 : decode cX5_init 248 = .ok (.sipush 4000, 3) := by decide +kernel
theorem dX5_init_251 : decode cX5_init 251 = .ok (.newarray .int, 2) := by decide +kernel
theorem dX5_init_253 : decode cX5_init 253 = .ok (.putfield 47, 3) := by decide +kernel
theorem dX5_init_256 : decode cX5_init 256 = .ok (.aload_n 0, 1) := by decide +kernel
theorem dX5_init_257 : decode cX5_init 257 = .ok (.bipush 64, 2) := by decide +kernel
theorem dX5_init_259 : decode cX5_init 259 = .ok (.newarray .int, 2) := by decide +kernel
theorem dX5_init_261 : decode cX5_init 261 = .ok (.putfield 50, 3) := by decide +kernel
theorem dX5_init_264 : decode cX5_init 264 = .ok (.aload_n 0, 1) := by decide +kernel
theorem dX5_init_265 : decode cX5_init 265 = .ok (.iload_n 1, 1) := by decide +kernel
theorem dX5_init_266 : decode cX5_init 266 = .ok (.iconst 1, 1) := by decide +kernel
theorem dX5_init_267 : decode cX5_init 267 = .ok (.bipush 16, 2) := by decide +kernel
theorem dX5_init_269 : decode cX5_init 269 = .ok (.invokestatic 53, 3) := by decide +kernel
theorem dX5_init_272 : decode cX5_init 272 = .ok (.putfield 57, 3) := by decide +kernel
theorem dX5_init_275 : decode cX5_init 275 = .ok (.aload_n 0, 1) := by decide +kernel
theorem dX5_init_276 : decode cX5_init 276 = .ok (.iload_n 2, 1) := by decide +kernel
theorem dX5_init_277 : decode cX5_init 277 = .ok (.iconst 1, 1) := by decide +kernel
theorem dX5_init_278 : decode cX5_init 278 = .ok (.bipush 16, 2) := by decide +kernel
theorem dX5_init_280 : decode cX5_init 280 = .ok (.invokestatic 53, 3) := by decide +kernel
theorem dX5_init_283 : decode cX5_init 283 = .ok (.putfield 61, 3) := by decide +kernel
theorem dX5_init_286 : decode cX5_init 286 = .ok (.aload_n 0, 1) := by decide +kernel
theorem dX5_init_287 : decode cX5_init 287 = .ok (.iload 4, 2) := by decide +kernel
theorem dX5_init_289 : decode cX5_init 289 = .ok (.iconst 1, 1) := by decide +kernel
theorem dX5_init_290 : decode cX5_init 290 = .ok (.iconst 4, 1) := by decide +kernel
theorem dX5_init_291 : decode cX5_init 291 = .ok (.invokestatic 53, 3) := by decide +kernel
theorem dX5_init_294 : decode cX5_init 294 = .ok (.putfield 64, 3) := by decide +kernel
theorem dX5_init_297 : decode cX5_init 297 = .ok (.iconst 1, 1) := by decide +kernel
theorem dX5_init_298 : decode cX5_init 298 = .ok (.iload_n 3, 1) := by decide +kernel
theorem dX5_init_299 : decode cX5_init 299 = .ok (.iconst 0, 1) := by decide +kernel
theorem dX5_init_300 : decode cX5_init 300 = .ok (.iconst 4, 1) := by decide +kernel
theorem dX5_init_301 : decode cX5_init 301 = .ok (.invokestatic 53, 3) := by decide +kernel
theorem dX5_init_304 : decode cX5_init 304 = .ok (.ishl, 1) := by decide +kernel
theorem dX5_init_305 : decode cX5_init 305 = .ok (.istore 5, 2) := by decide +kernel
theorem dX5_init_307 : decode cX5_init 307 = .ok (.aload_n 0, 1) := by decide +kernel
theorem dX5_init_308 : decode cX5_init 308 = .ok (.aload_n 0, 1) := by decide +kernel
theorem dX5_init_309 : decode cX5_init 309 = .ok (.getfield 64, 3) := by decide +kernel
theorem dX5_init_312 : decode cX5_init 312 = .ok (.iconst 1, 1) := by decide +kernel
theorem dX5_init_313 : decode cX5_init 313 = .ok (.if_icmp .le 15, 3) := by decide +kernel
theorem dX5_init_316 : decode cX5_init 316 = .ok (.iload 5, 2) := by decide +kernel
theorem dX5_init_318 : decode cX5_init 318 = .ok (.bipush 8, 2) := by decide +kernel
theorem dX5_init_320 : decode cX5_init 320 = .ok (.if_icmp .ge 8, 3) := by decide +kernel
theorem dX5_init_323 : decode cX5_init 323 = .ok (.bipush 8, 2) := by decide +kernel
theorem dX5_init_325 : decode cX5_init 325 = .ok (.goto 5, 3) := by decide +kernel
theorem dX5_init_328 : decode cX5_init 328 = .ok (.iload 5, 2) := by decide +kernel
theorem dX5_init_330 : decode cX5_init 330 = .ok (.putfield 67, 3) := by decide +kernel
theorem dX5_init_333 : decode cX5_init 333 = .ok (.aload_n 0, 1) := by decide +kernel
theorem dX5_init_334 : decode cX5_init 334 = .ok (.getfield 64, 3) := by decide +kernel
theorem dX5_init_337 : decode cX5_init 337 = .ok (.aload_n 0, 1) := by decide +kernel
theorem dX5_init_338 : decode cX5_init 338 = .ok (.getfield 67, 3) := by decide +kernel
theorem dX5_init_341 : decode cX5_init 341 = .ok (.imul, 1) := by decide +kernel
theorem dX5_init_342 : decode cX5_init 342 = .ok (.bipush 8, 2) := by decide +kernel
theorem dX5_init_344 : decode cX5_init 344 = .ok (.idiv, 1) := by decide +kernel
theorem dX5_init_345 : decode cX5_init 345 = .ok (.istore 6, 2) := by decide +kernel
theorem dX5_init_347 : decode cX5_init 347 = .ok (.aload_n 0, 1) := by decide +kernel
theorem dX5_init_348 : decode cX5_init 348 = .ok (.iload 6, 2) := by decide +kernel
theorem dX5_init_350 : decode cX5_init 350 = .ok (.iconst 1, 1) := by decide +kernel
theorem dX5_init_351 : decode cX5_init 351 = .ok (.if_icmp .ge 7, 3) := by decide +kernel
theorem dX5_init_354 : decode cX5_init 354 = .ok (.iconst 1, 1) := by decide +kernel
theorem dX5_init_355 : decode cX5_init 355 = .ok (.goto 5, 3) := by decide +kernel
theorem dX5_init_358 : decode cX5_init 358 = .ok (.iload 6, 2) := by decide +kernel
theorem dX5_init_360 : decode cX5_init 360 = .ok (.putfield 70, 3) := by decide +kernel
theorem dX5_init_363 : decode cX5_init 363 = .ok (.return_, 1) := by decide +kernel
theorem dX5_thrown_0 : decode cX5_thrown 0 = .ok (.aload_n 0, 1) := by decide +kernel
theorem dX5_thrown_1 : decode cX5_thrown 1 = .ok (.getfield 73, 3) := by decide +kernel
theorem dX5_thrown_4 : decode cX5_thrown 4 = .ok (.ireturn, 1) := by decide +kernel
theorem dX5_near_0 : decode cX5_near 0 = .ok (.iload_n 0, 1) := by decide +kernel
theorem dX5_near_1 : decode cX5_near 1 = .ok (.iload_n 1, 1) := by decide +kernel
theorem dX5_near_2 : decode cX5_near 2 = .ok (.if_icmp .ge 7, 3) := by decide +kernel
theorem dX5_near_5 : decode cX5_near 5 = .ok (.iload_n 1, 1) := by decide +kernel
theorem dX5_near_6 : decode cX5_near 6 = .ok (.goto 13, 3) := by decide +kernel
theorem dX5_near_9 : decode cX5_near 9 = .ok (.iload_n 0, 1) := by decide +kernel
theorem dX5_near_10 : decode cX5_near 10 = .ok (.iload_n 2, 1) := by decide +kernel
theorem dX5_near_11 : decode cX5_near 11 = .ok (.if_icmp .le 7, 3) := by decide +kernel
theorem dX5_near_14 : decode cX5_near 14 = .ok (.iload_n 2, 1) := by decide +kernel
theorem dX5_near_15 : decode cX5_near 15 = .ok (.goto 4, 3) := by decide +kernel
theorem dX5_near_18 : decode cX5_near 18 = .ok (.iload_n 0, 1) := by decide +kernel
theorem dX5_near_19 : decode cX5_near 19 = .ok (.ireturn, 1) := by decide +kernel
theorem dX5_in_0 : decode cX5_in 0 = .ok (.iload_n 0, 1) := by decide +kernel
theorem dX5_in_1 : decode cX5_in 1 = .ok (.iload_n 1, 1) := by decide +kernel
theorem dX5_in_2 : decode cX5_in 2 = .ok (.if_icmp .lt 12, 3) := by decide +kernel
theorem dX5_in_5 : decode cX5_in 5 = .ok (.iload_n 0, 1) := by decide +kernel
theorem dX5_in_6 : decode cX5_in 6 = .ok (.iload_n 2, 1) := by decide +kernel
theorem dX5_in_7 : decode cX5_in 7 = .ok (.if_icmp .gt 7, 3) := by decide +kernel
theorem dX5_in_10 : decode cX5_in 10 = .ok (.iconst 1, 1) := by decide +kernel
theorem dX5_in_11 : decode cX5_in 11 = .ok (.goto 4, 3) := by decide +kernel
theorem dX5_in_14 : decode cX5_in 14 = .ok (.iconst 0, 1) := by decide +kernel
theorem dX5_in_15 : decode cX5_in 15 = .ok (.ireturn, 1) := by decide +kernel
theorem dX5_isSample_0 : decode cX5_isSample 0 = .ok (.iload_n 1, 1) := by decide +kernel
theorem dX5_isSample_1 : decode cX5_isSample 1 = .ok (.iconst 0, 1) := by decide +kernel
theorem dX5_isSample_2 : decode cX5_isSample 2 = .ok (.aload_n 0, 1) := by decide +kernel
theorem dX5_isSample_3 : decode cX5_isSample 3 = .ok (.getfield 57, 3) := by decide +kernel
theorem dX5_isSample_6 : decode cX5_isSample 6 = .ok (.iconst 1, 1) := by decide +kernel
theorem dX5_isSample_7 : decode cX5_isSample 7 = .ok (.isub, 1) := by decide +kernel
theorem dX5_isSample_8 : decode cX5_isSample 8 = .ok (.invokestatic 76, 3) := by decide +kernel
theorem dX5_isSample_11 : decode cX5_isSample 11 = .ok (.ifCond .eq 35, 3) := by decide +kernel
theorem dX5_isSample_14 : decode cX5_isSample 14 = .ok (.iload_n 2, 1) := by decide +kernel
theorem dX5_isSample_15 : decode cX5_isSample 15 = .ok (.iconst 0, 1) := by decide +kernel
theorem dX5_isSample_16 : decode cX5_isSample 16 = .ok (.aload_n 0, 1) := by decide +kernel
theorem dX5_isSample_17 : decode cX5_isSample 17 = .ok (.getfield 61, 3) := by decide +kernel
theorem dX5_isSample_20 : decode cX5_isSample 20 = .ok (.iconst 1, 1) := by decide +kernel
theorem dX5_isSample_21 : decode cX5_isSample 21 = .ok (.isub, 1) := by decide +kernel
theorem dX5_isSample_22 : decode cX5_isSample 22 = .ok (.invokestatic 76, 3) := by decide +kernel
theorem dX5_isSample_25 : decode cX5_isSample 25 = .ok (.ifCond .eq 21, 3) := by decide +kernel
theorem dX5_isSample_28 : decode cX5_isSample 28 = .ok (.iload_n 3, 1) := by decide +kernel
theorem dX5_isSample_29 : decode cX5_isSample 29 = .ok (.iconst 0, 1) := by decide +kernel
theorem dX5_isSample_30 : decode cX5_isSample 30 = .ok (.aload_n 0, 1) := by decide +kernel
theorem dX5_isSample_31 : decode cX5_isSample 31 = .ok (.getfield 64, 3) := by decide +kernel
theorem dX5_isSample_34 : decode cX5_isSample 34 = .ok (.iconst 1, 1) := by decide +kernel
theorem dX5_isSample_35 : decode cX5_isSample 35 = .ok (.isub, 1) := by decide +kernel
theorem dX5_isSample_36 : decode cX5_isSample 36 = .ok (.invokestatic 76, 3) := by decide +kernel
theorem dX5_isSample_39 : decode cX5_isSample 39 = .ok (.ifCond .eq 7, 3) := by decide +kernel
theorem dX5_isSample_42 : decode cX5_isSample 42 = .ok (.iconst 1, 1) := by decide +kernel
theorem dX5_isSample_43 : decode cX5_isSample 43 = .ok (.goto 4, 3) := by decide +kernel
theorem dX5_isSample_46 : decode cX5_isSample 46 = .ok (.iconst 0, 1) := by decide +kernel
theorem dX5_isSample_47 : decode cX5_isSample 47 = .ok (.ireturn, 1) := by decide +kernel
theorem dX5_place_0 : decode cX5_place 0 = .ok (.iconst 4, 1) := by decide +kernel
theorem dX5_place_1 : decode cX5_place 1 = .ok (.bipush 16, 2) := by decide +kernel
theorem dX5_place_3 : decode cX5_place 3 = .ok (.iload_n 1, 1) := by decide +kernel
theorem dX5_place_4 : decode cX5_place 4 = .ok (.imul, 1) := by decide +kernel
theorem dX5_place_5 : decode cX5_place 5 = .ok (.iload_n 0, 1) := by decide +kernel
theorem dX5_place_6 : decode cX5_place 6 = .ok (.iadd, 1) := by decide +kernel
theorem dX5_place_7 : decode cX5_place 7 = .ok (.imul, 1) := by decide +kernel
theorem dX5_place_8 : decode cX5_place 8 = .ok (.ireturn, 1) := by decide +kernel
theorem dX5_put_0 : decode cX5_put 0 = .ok (.aload_n 0, 1) := by decide +kernel
theorem dX5_put_1 : decode cX5_put 1 = .ok (.aload_n 0, 1) := by decide +kernel
theorem dX5_put_2 : decode cX5_put 2 = .ok (.iload_n 1, 1) := by decide +kernel
theorem dX5_put_3 : decode cX5_put 3 = .ok (.iload_n 2, 1) := by decide +kernel
theorem dX5_put_4 : decode cX5_put 4 = .ok (.iload_n 3, 1) := by decide +kernel
theorem dX5_put_5 : decode cX5_put 5 = .ok (.invokevirtual 80, 3) := by decide +kernel
theorem dX5_put_8 : decode cX5_put 8 = .ok (.ifCond .ne 7, 3) := by decide +kernel
theorem dX5_put_11 : decode cX5_put 11 = .ok (.iconst 1, 1) := by decide +kernel
theorem dX5_put_12 : decode cX5_put 12 = .ok (.goto 25, 3) := by decide +kernel
theorem dX5_put_15 : decode cX5_put 15 = .ok (.iload 4, 2) := by decide +kernel
theorem dX5_put_17 : decode cX5_put 17 = .ok (.iconst 0, 1) := by decide +kernel
theorem dX5_put_18 : decode cX5_put 18 = .ok (.iconst 1, 1) := by decide +kernel
theorem dX5_put_19 : decode cX5_put 19 = .ok (.aload_n 0, 1) := by decide +kernel
theorem dX5_put_20 : decode cX5_put 20 = .ok (.getfield 67, 3) := by decide +kernel
theorem dX5_put_23 : decode cX5_put 23 = .ok (.ishl, 1) := by decide +kernel
theorem dX5_put_24 : decode cX5_put 24 = .ok (.iconst 1, 1) := by decide +kernel
theorem dX5_put_25 : decode cX5_put 25 = .ok (.isub, 1) := by decide +kernel
theorem dX5_put_26 : decode cX5_put 26 = .ok (.invokestatic 76, 3) := by decide +kernel
theorem dX5_put_29 : decode cX5_put 29 = .ok (.ifCond .ne 7, 3) := by decide +kernel
theorem dX5_put_32 : decode cX5_put 32 = .ok (.iconst 2, 1) := by decide +kernel
theorem dX5_put_33 : decode cX5_put 33 = .ok (.goto 4, 3) := by decide +kernel
theorem dX5_put_36 : decode cX5_put 36 = .ok (.iconst 0, 1) := by decide +kernel
theorem dX5_put_37 : decode cX5_put 37 = .ok (.putfield 73, 3) := by decide +kernel
theorem dX5_put_40 : decode cX5_put 40 = .ok (.aload_n 0, 1) := by decide +kernel
theorem dX5_put_41 : decode cX5_put 41 = .ok (.getfield 73, 3) := by decide +kernel
theorem dX5_put_44 : decode cX5_put 44 = .ok (.ifCond .le 5, 3) := by decide +kernel
theorem dX5_put_47 : decode cX5_put 47 = .ok (.iconst 0, 1) := by decide +kernel
theorem dX5_put_48 : decode cX5_put 48 = .ok (.ireturn, 1) := by decide +kernel
theorem dX5_put_49 : decode cX5_put 49 = .ok (.aload_n 0, 1) := by decide +kernel
theorem dX5_put_50 : decode cX5_put 50 = .ok (.getfield 22, 3) := by decide +kernel
theorem dX5_put_53 : decode cX5_put 53 = .ok (.iload_n 1, 1) := by decide +kernel
theorem dX5_put_54 : decode cX5_put 54 = .ok (.iload_n 2, 1) := by decide +kernel
theorem dX5_put_55 : decode cX5_put 55 = .ok (.invokestatic 83, 3) := by decide +kernel
theorem dX5_put_58 : decode cX5_put 58 = .ok (.iload_n 3, 1) := by decide +kernel
theorem dX5_put_59 : decode cX5_put 59 = .ok (.iadd, 1) := by decide +kernel
theorem dX5_put_60 : decode cX5_put 60 = .ok (.iaload, 1) := by decide +kernel
theorem dX5_put_61 : decode cX5_put 61 = .ok (.istore 5, 2) := by decide +kernel
theorem dX5_put_63 : decode cX5_put 63 = .ok (.aload_n 0, 1) := by decide +kernel
theorem dX5_put_64 : decode cX5_put 64 = .ok (.getfield 22, 3) := by decide +kernel
theorem dX5_put_67 : decode cX5_put 67 = .ok (.iload_n 1, 1) := by decide +kernel
theorem dX5_put_68 : decode cX5_put 68 = .ok (.iload_n 2, 1) := by decide +kernel
theorem dX5_put_69 : decode cX5_put 69 = .ok (.invokestatic 83, 3) := by decide +kernel
theorem dX5_put_72 : decode cX5_put 72 = .ok (.iload_n 3, 1) := by decide +kernel
theorem dX5_put_73 : decode cX5_put 73 = .ok (.iadd, 1) := by decide +kernel
theorem dX5_put_74 : decode cX5_put 74 = .ok (.iload 4, 2) := by decide +kernel
theorem dX5_put_76 : decode cX5_put 76 = .ok (.iastore, 1) := by decide +kernel
theorem dX5_put_77 : decode cX5_put 77 = .ok (.iload 5, 2) := by decide +kernel
theorem dX5_put_79 : decode cX5_put 79 = .ok (.ireturn, 1) := by decide +kernel
theorem dX5_paint_0 : decode cX5_paint 0 = .ok (.aload_n 0, 1) := by decide +kernel
theorem dX5_paint_1 : decode cX5_paint 1 = .ok (.iconst 0, 1) := by decide +kernel
theorem dX5_paint_2 : decode cX5_paint 2 = .ok (.putfield 73, 3) := by decide +kernel
theorem dX5_paint_5 : decode cX5_paint 5 = .ok (.iconst 0, 1) := by decide +kernel
theorem dX5_paint_6 : decode cX5_paint 6 = .ok (.istore_n 3, 1) := by decide +kernel
theorem dX5_paint_7 : decode cX5_paint 7 = .ok (.iload_n 1, 1) := by decide +kernel
theorem dX5_paint_8 : decode cX5_paint 8 = .ok (.istore 4, 2) := by decide +kernel
theorem dX5_paint_10 : decode cX5_paint 10 = .ok (.iconst 0, 1) := by decide +kernel
theorem dX5_paint_11 : decode cX5_paint 11 = .ok (.istore 5, 2) := by decide +kernel
theorem dX5_paint_13 : decode cX5_paint 13 = .ok (.iload 5, 2) := by decide +kernel
theorem dX5_paint_15 : decode cX5_paint 15 = .ok (.aload_n 0, 1) := by decide +kernel
theorem dX5_paint_16 : decode cX5_paint 16 = .ok (.getfield 61, 3) := by decide +kernel
theorem dX5_paint_19 : decode cX5_paint 19 = .ok (.if_icmp .ge 109, 3) := by decide +kernel
theorem dX5_paint_22 : decode cX5_paint 22 = .ok (.iconst 0, 1) := by decide +kernel
theorem dX5_paint_23 : decode cX5_paint 23 = .ok (.istore 6, 2) := by decide +kernel
theorem dX5_paint_25 : decode cX5_paint 25 = .ok (.iload 6, 2) := by decide +kernel
theorem dX5_paint_27 : decode cX5_paint 27 = .ok (.aload_n 0, 1) := by decide +kernel
theorem dX5_paint_28 : decode cX5_paint 28 = .ok (.getfield 57, 3) := by decide +kernel
theorem dX5_paint_31 : decode cX5_paint 31 = .ok (.if_icmp .ge 91, 3) := by decide +kernel
theorem dX5_paint_34 : decode cX5_paint 34 = .ok (.iconst 0, 1) := by decide +kernel
theorem dX5_paint_35 : decode cX5_paint 35 = .ok (.istore 7, 2) := by decide +kernel
theorem dX5_paint_37 : decode cX5_paint 37 = .ok (.iload 7, 2) := by decide +kernel
theorem dX5_paint_39 : decode cX5_paint 39 = .ok (.aload_n 0, 1) := by decide +kernel
theorem dX5_paint_40 : decode cX5_paint 40 = .ok (.getfield 64, 3) := by decide +kernel
theorem dX5_paint_43 : decode cX5_paint 43 = .ok (.if_icmp .ge 73, 3) := by decide +kernel
theorem dX5_paint_46 : decode cX5_paint 46 = .ok (.iload 4, 2) := by decide +kernel
theorem dX5_paint_48 : decode cX5_paint 48 = .ok (.iconst 1, 1) := by decide +kernel
theorem dX5_paint_49 : decode cX5_paint 49 = .ok (.aload_n 0, 1) := by decide +kernel
theorem dX5_paint_50 : decode cX5_paint 50 = .ok (.getfield 67, 3) := by decide +kernel
theorem dX5_paint_53 : decode cX5_paint 53 = .ok (.ishl, 1) := by decide +kernel
theorem dX5_paint_54 : decode cX5_paint 54 = .ok (.iconst 1, 1) := by decide +kernel
theorem dX5_paint_55 : decode cX5_paint 55 = .ok (.isub, 1) := by decide +kernel
theorem dX5_paint_56 : decode cX5_paint 56 = .ok (.iand, 1) := by decide +kernel
theorem dX5_paint_57 : decode cX5_paint 57 = .ok (.istore 8, 2) := by decide +kernel
theorem dX5_paint_59 : decode cX5_paint 59 = .ok (.aload_n 0, 1) := by decide +kernel
theorem dX5_paint_60 : decode cX5_paint 60 = .ok (.getfield 22, 3) := by decide +kernel
theorem dX5_paint_63 : decode cX5_paint 63 = .ok (.iload 6, 2) := by decide +kernel
theorem dX5_paint_65 : decode cX5_paint 65 = .ok (.iload 5, 2) := by decide +kernel
theorem dX5_paint_67 : decode cX5_paint 67 = .ok (.invokestatic 83, 3) := by decide +kernel
theorem dX5_paint_70 : decode cX5_paint 70 = .ok (.iload 7, 2) := by decide +kernel
theorem dX5_paint_72 : decode cX5_paint 72 = .ok (.iadd, 1) := by decide +kernel
theorem dX5_paint_73 : decode cX5_paint 73 = .ok (.iaload, 1) := by decide +kernel
theorem dX5_paint_74 : decode cX5_paint 74 = .ok (.iload 8, 2) := by decide +kernel
theorem dX5_paint_76 : decode cX5_paint 76 = .ok (.if_icmp .eq 9, 3) := by decide +kernel
theorem dX5_paint_79 : decode cX5_paint 79 = .ok (.iload_n 3, 1) := by decide +kernel
theorem dX5_paint_80 : decode cX5_paint 80 = .ok (.iconst 1, 1) := by decide +kernel
theorem dX5_paint_81 : decode cX5_paint 81 = .ok (.iadd, 1) := by decide +kernel
theorem dX5_paint_82 : decode cX5_paint 82 = .ok (.goto 4, 3) := by decide +kernel
theorem dX5_paint_85 : decode cX5_paint 85 = .ok (.iload_n 3, 1) := by decide +kernel
theorem dX5_paint_86 : decode cX5_paint 86 = .ok (.istore_n 3, 1) := by decide +kernel
theorem dX5_paint_87 : decode cX5_paint 87 = .ok (.aload_n 0, 1) := by decide +kernel
theorem dX5_paint_88 : decode cX5_paint 88 = .ok (.getfield 22, 3) := by decide +kernel
theorem dX5_paint_91 : decode cX5_paint 91 = .ok (.iload 6, 2) := by decide +kernel
theorem dX5_paint_93 : decode cX5_paint 93 = .ok (.iload 5, 2) := by decide +kernel
theorem dX5_paint_95 : decode cX5_paint 95 = .ok (.invokestatic 83, 3) := by decide +kernel
theorem dX5_paint_98 : decode cX5_paint 98 = .ok (.iload 7, 2) := by decide +kernel
theorem dX5_paint_100 : decode cX5_paint 100 = .ok (.iadd, 1) := by decide +kernel
theorem dX5_paint_101 : decode cX5_paint 101 = .ok (.iload 8, 2) := by decide +kernel
theorem dX5_paint_103 : decode cX5_paint 103 = .ok (.iastore, 1) := by decide +kernel
theorem dX5_paint_104 : decode cX5_paint 104 = .ok (.iload 4, 2) := by decide +kernel
theorem dX5_paint_106 : decode cX5_paint 106 = .ok (.iload_n 2, 1) := by decide +kernel
theorem dX5_paint_107 : decode cX5_paint 107 = .ok (.iadd, 1) := by decide +kernel
theorem dX5_paint_108 : decode cX5_paint 108 = .ok (.istore 4, 2) := by decide +kernel
theorem dX5_paint_110 : decode cX5_paint 110 = .ok (.iinc 7 1, 3) := by decide +kernel
theorem dX5_paint_113 : decode cX5_paint 113 = .ok (.goto (-76), 3) := by decide +kernel
theorem dX5_paint_116 : decode cX5_paint 116 = .ok (.iinc 6 1, 3) := by decide +kernel
theorem dX5_paint_119 : decode cX5_paint 119 = .ok (.goto (-94), 3) := by decide +kernel
theorem dX5_paint_122 : decode cX5_paint 122 = .ok (.iinc 5 1, 3) := by decide +kernel
theorem dX5_paint_125 : decode cX5_paint 125 = .ok (.goto (-112), 3) := by decide +kernel
theorem dX5_paint_128 : decode cX5_paint 128 = .ok (.iload_n 3, 1) := by decide +kernel
theorem dX5_paint_129 : decode cX5_paint 129 = .ok (.ireturn, 1) := by decide +kernel
theorem dX5_at_0 : decode cX5_at 0 = .ok (.aload_n 0, 1) := by decide +kernel
theorem dX5_at_1 : decode cX5_at 1 = .ok (.aload_n 0, 1) := by decide +kernel
theorem dX5_at_2 : decode cX5_at 2 = .ok (.iload_n 1, 1) := by decide +kernel
theorem dX5_at_3 : decode cX5_at 3 = .ok (.iload_n 2, 1) := by decide +kernel
theorem dX5_at_4 : decode cX5_at 4 = .ok (.iload_n 3, 1) := by decide +kernel
theorem dX5_at_5 : decode cX5_at 5 = .ok (.invokevirtual 80, 3) := by decide +kernel
theorem dX5_at_8 : decode cX5_at 8 = .ok (.ifCond .eq 7, 3) := by decide +kernel
theorem dX5_at_11 : decode cX5_at 11 = .ok (.iconst 0, 1) := by decide +kernel
theorem dX5_at_12 : decode cX5_at 12 = .ok (.goto 4, 3) := by decide +kernel
theorem dX5_at_15 : decode cX5_at 15 = .ok (.iconst 1, 1) := by decide +kernel
theorem dX5_at_16 : decode cX5_at 16 = .ok (.putfield 73, 3) := by decide +kernel
theorem dX5_at_19 : decode cX5_at 19 = .ok (.aload_n 0, 1) := by decide +kernel
theorem dX5_at_20 : decode cX5_at 20 = .ok (.getfield 73, 3) := by decide +kernel
theorem dX5_at_23 : decode cX5_at 23 = .ok (.ifCond .le 7, 3) := by decide +kernel
theorem dX5_at_26 : decode cX5_at 26 = .ok (.iconst 0, 1) := by decide +kernel
theorem dX5_at_27 : decode cX5_at 27 = .ok (.goto 15, 3) := by decide +kernel
theorem dX5_at_30 : decode cX5_at 30 = .ok (.aload_n 0, 1) := by decide +kernel
theorem dX5_at_31 : decode cX5_at 31 = .ok (.getfield 22, 3) := by decide +kernel
theorem dX5_at_34 : decode cX5_at 34 = .ok (.iload_n 1, 1) := by decide +kernel
theorem dX5_at_35 : decode cX5_at 35 = .ok (.iload_n 2, 1) := by decide +kernel
theorem dX5_at_36 : decode cX5_at 36 = .ok (.invokestatic 83, 3) := by decide +kernel
theorem dX5_at_39 : decode cX5_at 39 = .ok (.iload_n 3, 1) := by decide +kernel
theorem dX5_at_40 : decode cX5_at 40 = .ok (.iadd, 1) := by decide +kernel
theorem dX5_at_41 : decode cX5_at 41 = .ok (.iaload, 1) := by decide +kernel
theorem dX5_at_42 : decode cX5_at 42 = .ok (.ireturn, 1) := by decide +kernel
theorem dX5_wide_0 : decode cX5_wide 0 = .ok (.aload_n 0, 1) := by decide +kernel
theorem dX5_wide_1 : decode cX5_wide 1 = .ok (.getfield 57, 3) := by decide +kernel
theorem dX5_wide_4 : decode cX5_wide 4 = .ok (.aload_n 0, 1) := by decide +kernel
theorem dX5_wide_5 : decode cX5_wide 5 = .ok (.getfield 7, 3) := by decide +kernel
theorem dX5_wide_8 : decode cX5_wide 8 = .ok (.iload_n 1, 1) := by decide +kernel
theorem dX5_wide_9 : decode cX5_wide 9 = .ok (.iaload, 1) := by decide +kernel
theorem dX5_wide_10 : decode cX5_wide 10 = .ok (.isub, 1) := by decide +kernel
theorem dX5_wide_11 : decode cX5_wide 11 = .ok (.aload_n 0, 1) := by decide +kernel
theorem dX5_wide_12 : decode cX5_wide 12 = .ok (.getfield 13, 3) := by decide +kernel
theorem dX5_wide_15 : decode cX5_wide 15 = .ok (.iload_n 1, 1) := by decide +kernel
theorem dX5_wide_16 : decode cX5_wide 16 = .ok (.iaload, 1) := by decide +kernel
theorem dX5_wide_17 : decode cX5_wide 17 = .ok (.iadd, 1) := by decide +kernel
theorem dX5_wide_18 : decode cX5_wide 18 = .ok (.iconst 1, 1) := by decide +kernel
theorem dX5_wide_19 : decode cX5_wide 19 = .ok (.isub, 1) := by decide +kernel
theorem dX5_wide_20 : decode cX5_wide 20 = .ok (.aload_n 0, 1) := by decide +kernel
theorem dX5_wide_21 : decode cX5_wide 21 = .ok (.getfield 13, 3) := by decide +kernel
theorem dX5_wide_24 : decode cX5_wide 24 = .ok (.iload_n 1, 1) := by decide +kernel
theorem dX5_wide_25 : decode cX5_wide 25 = .ok (.iaload, 1) := by decide +kernel
theorem dX5_wide_26 : decode cX5_wide 26 = .ok (.idiv, 1) := by decide +kernel
theorem dX5_wide_27 : decode cX5_wide 27 = .ok (.ireturn, 1) := by decide +kernel
theorem dX5_high_0 : decode cX5_high 0 = .ok (.aload_n 0, 1) := by decide +kernel
theorem dX5_high_1 : decode cX5_high 1 = .ok (.getfield 61, 3) := by decide +kernel
theorem dX5_high_4 : decode cX5_high 4 = .ok (.aload_n 0, 1) := by decide +kernel
theorem dX5_high_5 : decode cX5_high 5 = .ok (.getfield 16, 3) := by decide +kernel
theorem dX5_high_8 : decode cX5_high 8 = .ok (.iload_n 1, 1) := by decide +kernel
theorem dX5_high_9 : decode cX5_high 9 = .ok (.iaload, 1) := by decide +kernel
theorem dX5_high_10 : decode cX5_high 10 = .ok (.isub, 1) := by decide +kernel
theorem dX5_high_11 : decode cX5_high 11 = .ok (.aload_n 0, 1) := by decide +kernel
theorem dX5_high_12 : decode cX5_high 12 = .ok (.getfield 19, 3) := by decide +kernel
theorem dX5_high_15 : decode cX5_high 15 = .ok (.iload_n 1, 1) := by decide +kernel
theorem dX5_high_16 : decode cX5_high 16 = .ok (.iaload, 1) := by decide +kernel
theorem dX5_high_17 : decode cX5_high 17 = .ok (.iadd, 1) := by decide +kernel
theorem dX5_high_18 : decode cX5_high 18 = .ok (.iconst 1, 1) := by decide +kernel
theorem dX5_high_19 : decode cX5_high 19 = .ok (.isub, 1) := by decide +kernel
theorem dX5_high_20 : decode cX5_high 20 = .ok (.aload_n 0, 1) := by decide +kernel
theorem dX5_high_21 : decode cX5_high 21 = .ok (.getfield 19, 3) := by decide +kernel
theorem dX5_high_24 : decode cX5_high 24 = .ok (.iload_n 1, 1) := by decide +kernel
theorem dX5_high_25 : decode cX5_high 25 = .ok (.iaload, 1) := by decide +kernel
theorem dX5_high_26 : decode cX5_high 26 = .ok (.idiv, 1) := by decide +kernel
theorem dX5_high_27 : decode cX5_high 27 = .ok (.ireturn, 1) := by decide +kernel
theorem dX5_lines_0 : decode cX5_lines 0 = .ok (.aload_n 0, 1) := by decide +kernel
theorem dX5_lines_1 : decode cX5_lines 1 = .ok (.iload_n 1, 1) := by decide +kernel
theorem dX5_lines_2 : decode cX5_lines 2 = .ok (.invokevirtual 87, 3) := by decide +kernel
theorem dX5_lines_5 : decode cX5_lines 5 = .ok (.istore_n 2, 1) := by decide +kernel
theorem dX5_lines_6 : decode cX5_lines 6 = .ok (.aload_n 0, 1) := by decide +kernel
theorem dX5_lines_7 : decode cX5_lines 7 = .ok (.iload_n 1, 1) := by decide +kernel
theorem dX5_lines_8 : decode cX5_lines 8 = .ok (.invokevirtual 91, 3) := by decide +kernel
theorem dX5_lines_11 : decode cX5_lines 11 = .ok (.istore_n 3, 1) := by decide +kernel
theorem dX5_lines_12 : decode cX5_lines 12 = .ok (.iload_n 2, 1) := by decide +kernel
theorem dX5_lines_13 : decode cX5_lines 13 = .ok (.ifCond .le 11, 3) := by decide +kernel
theorem dX5_lines_16 : decode cX5_lines 16 = .ok (.iload_n 3, 1) := by decide +kernel
theorem dX5_lines_17 : decode cX5_lines 17 = .ok (.ifCond .le 7, 3) := by decide +kernel
theorem dX5_lines_20 : decode cX5_lines 20 = .ok (.iload_n 3, 1) := by decide +kernel
theorem dX5_lines_21 : decode cX5_lines 21 = .ok (.goto 4, 3) := by decide +kernel
theorem dX5_lines_24 : decode cX5_lines 24 = .ok (.iconst 0, 1) := by decide +kernel
theorem dX5_lines_25 : decode cX5_lines 25 = .ok (.ireturn, 1) := by decide +kernel
theorem dX5_bytes_0 : decode cX5_bytes 0 = .ok (.aload_n 0, 1) := by decide +kernel
theorem dX5_bytes_1 : decode cX5_bytes 1 = .ok (.iload_n 1, 1) := by decide +kernel
theorem dX5_bytes_2 : decode cX5_bytes 2 = .ok (.invokevirtual 94, 3) := by decide +kernel
theorem dX5_bytes_5 : decode cX5_bytes 5 = .ok (.ifCond .ne 7, 3) := by decide +kernel
theorem dX5_bytes_8 : decode cX5_bytes 8 = .ok (.iconst 0, 1) := by decide +kernel
theorem dX5_bytes_9 : decode cX5_bytes 9 = .ok (.goto 24, 3) := by decide +kernel
theorem dX5_bytes_12 : decode cX5_bytes 12 = .ok (.aload_n 0, 1) := by decide +kernel
theorem dX5_bytes_13 : decode cX5_bytes 13 = .ok (.iload_n 1, 1) := by decide +kernel
theorem dX5_bytes_14 : decode cX5_bytes 14 = .ok (.invokevirtual 87, 3) := by decide +kernel
theorem dX5_bytes_17 : decode cX5_bytes 17 = .ok (.aload_n 0, 1) := by decide +kernel
theorem dX5_bytes_18 : decode cX5_bytes 18 = .ok (.getfield 64, 3) := by decide +kernel
theorem dX5_bytes_21 : decode cX5_bytes 21 = .ok (.imul, 1) := by decide +kernel
theorem dX5_bytes_22 : decode cX5_bytes 22 = .ok (.aload_n 0, 1) := by decide +kernel
theorem dX5_bytes_23 : decode cX5_bytes 23 = .ok (.getfield 67, 3) := by decide +kernel
theorem dX5_bytes_26 : decode cX5_bytes 26 = .ok (.imul, 1) := by decide +kernel
theorem dX5_bytes_27 : decode cX5_bytes 27 = .ok (.bipush 7, 2) := by decide +kernel
theorem dX5_bytes_29 : decode cX5_bytes 29 = .ok (.iadd, 1) := by decide +kernel
theorem dX5_bytes_30 : decode cX5_bytes 30 = .ok (.bipush 8, 2) := by decide +kernel
theorem dX5_bytes_32 : decode cX5_bytes 32 = .ok (.idiv, 1) := by decide +kernel
theorem dX5_bytes_33 : decode cX5_bytes 33 = .ok (.ireturn, 1) := by decide +kernel
theorem dX5_pass_0 : decode cX5_pass 0 = .ok (.aload_n 0, 1) := by decide +kernel
theorem dX5_pass_1 : decode cX5_pass 1 = .ok (.iload_n 1, 1) := by decide +kernel
theorem dX5_pass_2 : decode cX5_pass 2 = .ok (.iconst 0, 1) := by decide +kernel
theorem dX5_pass_3 : decode cX5_pass 3 = .ok (.bipush 7, 2) := by decide +kernel
theorem dX5_pass_5 : decode cX5_pass 5 = .ok (.invokestatic 76, 3) := by decide +kernel
theorem dX5_pass_8 : decode cX5_pass 8 = .ok (.ifCond .eq 12, 3) := by decide +kernel
theorem dX5_pass_11 : decode cX5_pass 11 = .ok (.iload_n 2, 1) := by decide +kernel
theorem dX5_pass_12 : decode cX5_pass 12 = .ok (.iconst 0, 1) := by decide +kernel
theorem dX5_pass_13 : decode cX5_pass 13 = .ok (.iconst 2, 1) := by decide +kernel
theorem dX5_pass_14 : decode cX5_pass 14 = .ok (.invokestatic 76, 3) := by decide +kernel
theorem dX5_pass_17 : decode cX5_pass 17 = .ok (.ifCond .ne 7, 3) := by decide +kernel
theorem dX5_pass_20 : decode cX5_pass 20 = .ok (.iconst 1, 1) := by decide +kernel
theorem dX5_pass_21 : decode cX5_pass 21 = .ok (.goto 4, 3) := by decide +kernel
theorem dX5_pass_24 : decode cX5_pass 24 = .ok (.iconst 0, 1) := by decide +kernel
theorem dX5_pass_25 : decode cX5_pass 25 = .ok (.putfield 73, 3) := by decide +kernel
theorem dX5_pass_28 : decode cX5_pass 28 = .ok (.aload_n 0, 1) := by decide +kernel
theorem dX5_pass_29 : decode cX5_pass 29 = .ok (.getfield 73, 3) := by decide +kernel
theorem dX5_pass_32 : decode cX5_pass 32 = .ok (.ifCond .le 5, 3) := by decide +kernel
theorem dX5_pass_35 : decode cX5_pass 35 = .ok (.iconst 0, 1) := by decide +kernel
theorem dX5_pass_36 : decode cX5_pass 36 = .ok (.ireturn, 1) := by decide +kernel
theorem dX5_pass_37 : decode cX5_pass 37 = .ok (.iload_n 2, 1) := by decide +kernel
theorem dX5_pass_38 : decode cX5_pass 38 = .ok (.ifCond .ne 11, 3) := by decide +kernel
theorem dX5_pass_41 : decode cX5_pass 41 = .ok (.aload_n 0, 1) := by decide +kernel
theorem dX5_pass_42 : decode cX5_pass 42 = .ok (.iload_n 1, 1) := by decide +kernel
theorem dX5_pass_43 : decode cX5_pass 43 = .ok (.invokevirtual 94, 3) := by decide +kernel
theorem dX5_pass_46 : decode cX5_pass 46 = .ok (.goto 27, 3) := by decide +kernel
theorem dX5_pass_49 : decode cX5_pass 49 = .ok (.iload_n 2, 1) := by decide +kernel
theorem dX5_pass_50 : decode cX5_pass 50 = .ok (.iconst 1, 1) := by decide +kernel
theorem dX5_pass_51 : decode cX5_pass 51 = .ok (.if_icmp .ne 11, 3) := by decide +kernel
theorem dX5_pass_54 : decode cX5_pass 54 = .ok (.aload_n 0, 1) := by decide +kernel
theorem dX5_pass_55 : decode cX5_pass 55 = .ok (.iload_n 1, 1) := by decide +kernel
theorem dX5_pass_56 : decode cX5_pass 56 = .ok (.invokevirtual 97, 3) := by decide +kernel
theorem dX5_pass_59 : decode cX5_pass 59 = .ok (.goto 14, 3) := by decide +kernel
theorem dX5_pass_62 : decode cX5_pass 62 = .ok (.aload_n 0, 1) := by decide +kernel
theorem dX5_pass_63 : decode cX5_pass 63 = .ok (.iload_n 1, 1) := by decide +kernel
theorem dX5_pass_64 : decode cX5_pass 64 = .ok (.invokevirtual 94, 3) := by decide +kernel
theorem dX5_pass_67 : decode cX5_pass 67 = .ok (.aload_n 0, 1) := by decide +kernel
theorem dX5_pass_68 : decode cX5_pass 68 = .ok (.iload_n 1, 1) := by decide +kernel
theorem dX5_pass_69 : decode cX5_pass 69 = .ok (.invokevirtual 87, 3) := by decide +kernel
theorem dX5_pass_72 : decode cX5_pass 72 = .ok (.imul, 1) := by decide +kernel
theorem dX5_pass_73 : decode cX5_pass 73 = .ok (.ireturn, 1) := by decide +kernel
theorem dX5_build_0 : decode cX5_build 0 = .ok (.iconst 0, 1) := by decide +kernel
theorem dX5_build_1 : decode cX5_build 1 = .ok (.istore 4, 2) := by decide +kernel
theorem dX5_build_3 : decode cX5_build 3 = .ok (.iload 4, 2) := by decide +kernel
theorem dX5_build_5 : decode cX5_build 5 = .ok (.sipush 140, 3) := by decide +kernel
theorem dX5_build_8 : decode cX5_build 8 = .ok (.if_icmp .ge 14, 3) := by decide +kernel
theorem dX5_build_11 : decode cX5_build 11 = .ok (.aload_n 3, 1) := by decide +kernel
theorem dX5_build_12 : decode cX5_build 12 = .ok (.iload 4, 2) := by decide +kernel
theorem dX5_build_14 : decode cX5_build 14 = .ok (.iconst 0, 1) := by decide +kernel
theorem dX5_build_15 : decode cX5_build 15 = .ok (.iastore, 1) := by decide +kernel
theorem dX5_build_16 : decode cX5_build 16 = .ok (.iinc 4 1, 3) := by decide +kernel
theorem dX5_build_19 : decode cX5_build 19 = .ok (.goto (-16), 3) := by decide +kernel
theorem dX5_build_22 : decode cX5_build 22 = .ok (.iconst 0, 1) := by decide +kernel
theorem dX5_build_23 : decode cX5_build 23 = .ok (.istore 4, 2) := by decide +kernel
theorem dX5_build_25 : decode cX5_build 25 = .ok (.iconst 0, 1) := by decide +kernel
theorem dX5_build_26 : decode cX5_build 26 = .ok (.istore 5, 2) := by decide +kernel
theorem dX5_build_28 : decode cX5_build 28 = .ok (.iload 5, 2) := by decide +kernel
theorem dX5_build_30 : decode cX5_build 30 = .ok (.aload_n 0, 1) := by decide +kernel
theorem dX5_build_31 : decode cX5_build 31 = .ok (.iload_n 1, 1) := by decide +kernel
theorem dX5_build_32 : decode cX5_build 32 = .ok (.invokevirtual 87, 3) := by decide +kernel
theorem dX5_build_35 : decode cX5_build 35 = .ok (.if_icmp .ge 136, 3) := by decide +kernel
theorem dX5_build_38 : decode cX5_build 38 = .ok (.iload_n 2, 1) := by decide +kernel
theorem dX5_build_39 : decode cX5_build 39 = .ok (.ifCond .lt 132, 3) := by decide +kernel
theorem dX5_build_42 : decode cX5_build 42 = .ok (.aload_n 0, 1) := by decide +kernel
theorem dX5_build_43 : decode cX5_build 43 = .ok (.getfield 7, 3) := by decide +kernel
theorem dX5_build_46 : decode cX5_build 46 = .ok (.iload_n 1, 1) := by decide +kernel
theorem dX5_build_47 : decode cX5_build 47 = .ok (.iaload, 1) := by decide +kernel
theorem dX5_build_48 : decode cX5_build 48 = .ok (.iload 5, 2) := by decide +kernel
theorem dX5_build_50 : decode cX5_build 50 = .ok (.aload_n 0, 1) := by decide +kernel
theorem dX5_build_51 : decode cX5_build 51 = .ok (.getfield 13, 3) := by decide +kernel
theorem dX5_build_54 : decode cX5_build 54 = .ok (.iload_n 1, 1) := by decide +kernel
theorem dX5_build_55 : decode cX5_build 55 = .ok (.iaload, 1) := by decide +kernel
theorem dX5_build_56 : decode cX5_build 56 = .ok (.imul, 1) := by decide +kernel
theorem dX5_build_57 : decode cX5_build 57 = .ok (.iadd, 1) := by decide +kernel
theorem dX5_build_58 : decode cX5_build 58 = .ok (.istore 6, 2) := by decide +kernel
theorem dX5_build_60 : decode cX5_build 60 = .ok (.aload_n 0, 1) := by decide +kernel
theorem dX5_build_61 : decode cX5_build 61 = .ok (.getfield 16, 3) := by decide +kernel
theorem dX5_build_64 : decode cX5_build 64 = .ok (.iload_n 1, 1) := by decide +kernel
theorem dX5_build_65 : decode cX5_build 65 = .ok (.iaload, 1) := by decide +kernel
theorem dX5_build_66 : decode cX5_build 66 = .ok (.iload_n 2, 1) := by decide +kernel
theorem dX5_build_67 : decode cX5_build 67 = .ok (.aload_n 0, 1) := by decide +kernel
theorem dX5_build_68 : decode cX5_build 68 = .ok (.getfield 19, 3) := by decide +kernel
theorem dX5_build_71 : decode cX5_build 71 = .ok (.iload_n 1, 1) := by decide +kernel
theorem dX5_build_72 : decode cX5_build 72 = .ok (.iaload, 1) := by decide +kernel
theorem dX5_build_73 : decode cX5_build 73 = .ok (.imul, 1) := by decide +kernel
theorem dX5_build_74 : decode cX5_build 74 = .ok (.iadd, 1) := by decide +kernel
theorem dX5_build_75 : decode cX5_build 75 = .ok (.istore 7, 2) := by decide +kernel
theorem dX5_build_77 : decode cX5_build 77 = .ok (.iconst 0, 1) := by decide +kernel
theorem dX5_build_78 : decode cX5_build 78 = .ok (.istore 8, 2) := by decide +kernel
theorem dX5_build_80 : decode cX5_build 80 = .ok (.iload 8, 2) := by decide +kernel
theorem dX5_build_82 : decode cX5_build 82 = .ok (.aload_n 0, 1) := by decide +kernel
theorem dX5_build_83 : decode cX5_build 83 = .ok (.getfield 64, 3) := by decide +kernel
theorem dX5_build_86 : decode cX5_build 86 = .ok (.if_icmp .ge 79, 3) := by decide +kernel
theorem dX5_build_89 : decode cX5_build 89 = .ok (.aload_n 0, 1) := by decide +kernel
theorem dX5_build_90 : decode cX5_build 90 = .ok (.getfield 67, 3) := by decide +kernel
theorem dX5_build_93 : decode cX5_build 93 = .ok (.iconst 1, 1) := by decide +kernel
theorem dX5_build_94 : decode cX5_build 94 = .ok (.isub, 1) := by decide +kernel
theorem dX5_build_95 : decode cX5_build 95 = .ok (.istore 9, 2) := by decide +kernel
theorem dX5_build_97 : decode cX5_build 97 = .ok (.iload 9, 2) := by decide +kernel
theorem dX5_build_99 : decode cX5_build 99 = .ok (.ifCond .lt 60, 3) := by decide +kernel
theorem dX5_build_102 : decode cX5_build 102 = .ok (.aload_n 0, 1) := by decide +kernel
theorem dX5_build_103 : decode cX5_build 103 = .ok (.getfield 22, 3) := by decide +kernel
theorem dX5_build_106 : decode cX5_build 106 = .ok (.iload 6, 2) := by decide +kernel
theorem dX5_build_108 : decode cX5_build 108 = .ok (.iload 7, 2) := by decide +kernel
theorem dX5_build_110 : decode cX5_build 110 = .ok (.invokestatic 83, 3) := by decide +kernel
theorem dX5_build_113 : decode cX5_build 113 = .ok (.iload 8, 2) := by decide +kernel
theorem dX5_build_115 : decode cX5_build 115 = .ok (.iadd, 1) := by decide +kernel
theorem dX5_build_116 : decode cX5_build 116 = .ok (.iaload, 1) := by decide +kernel
theorem dX5_build_117 : decode cX5_build 117 = .ok (.iload 9, 2) := by decide +kernel
theorem dX5_build_119 : decode cX5_build 119 = .ok (.ishr, 1) := by decide +kernel
theorem dX5_build_120 : decode cX5_build 120 = .ok (.iconst 1, 1) := by decide +kernel
theorem dX5_build_121 : decode cX5_build 121 = .ok (.iand, 1) := by decide +kernel
theorem dX5_build_122 : decode cX5_build 122 = .ok (.istore 10, 2) := by decide +kernel
theorem dX5_build_124 : decode cX5_build 124 = .ok (.aload_n 3, 1) := by decide +kernel
theorem dX5_build_125 : decode cX5_build 125 = .ok (.iload 4, 2) := by decide +kernel
theorem dX5_build_127 : decode cX5_build 127 = .ok (.bipush 8, 2) := by decide +kernel
theorem dX5_build_129 : decode cX5_build 129 = .ok (.idiv, 1) := by decide +kernel
theorem dX5_build_130 : decode cX5_build 130 = .ok (.aload_n 3, 1) := by decide +kernel
theorem dX5_build_131 : decode cX5_build 131 = .ok (.iload 4, 2) := by decide +kernel
theorem dX5_build_133 : decode cX5_build 133 = .ok (.bipush 8, 2) := by decide +kernel
theorem dX5_build_135 : decode cX5_build 135 = .ok (.idiv, 1) := by decide +kernel
theorem dX5_build_136 : decode cX5_build 136 = .ok (.iaload, 1) := by decide +kernel
theorem dX5_build_137 : decode cX5_build 137 = .ok (.iload 10, 2) := by decide +kernel
theorem dX5_build_139 : decode cX5_build 139 = .ok (.bipush 7, 2) := by decide +kernel
theorem dX5_build_141 : decode cX5_build 141 = .ok (.iload 4, 2) := by decide +kernel
theorem dX5_build_143 : decode cX5_build 143 = .ok (.bipush 8, 2) := by decide +kernel
theorem dX5_build_145 : decode cX5_build 145 = .ok (.irem, 1) := by decide +kernel
theorem dX5_build_146 : decode cX5_build 146 = .ok (.isub, 1) := by decide +kernel
theorem dX5_build_147 : decode cX5_build 147 = .ok (.ishl, 1) := by decide +kernel
theorem dX5_build_148 : decode cX5_build 148 = .ok (.ior, 1) := by decide +kernel
theorem dX5_build_149 : decode cX5_build 149 = .ok (.iastore, 1) := by decide +kernel
theorem dX5_build_150 : decode cX5_build 150 = .ok (.iinc 4 1, 3) := by decide +kernel
theorem dX5_build_153 : decode cX5_build 153 = .ok (.iinc 9 (-1), 3) := by decide +kernel
theorem dX5_build_156 : decode cX5_build 156 = .ok (.goto (-59), 3) := by decide +kernel
theorem dX5_build_159 : decode cX5_build 159 = .ok (.iinc 8 1, 3) := by decide +kernel
theorem dX5_build_162 : decode cX5_build 162 = .ok (.goto (-82), 3) := by decide +kernel
theorem dX5_build_165 : decode cX5_build 165 = .ok (.iinc 5 1, 3) := by decide +kernel
theorem dX5_build_168 : decode cX5_build 168 = .ok (.goto (-140), 3) := by decide +kernel
theorem dX5_build_171 : decode cX5_build 171 = .ok (.return_, 1) := by decide +kernel
theorem dX5_size_0 : decode cX5_size 0 = .ok (.iload_n 0, 1) := by decide +kernel
theorem dX5_size_1 : decode cX5_size 1 = .ok (.ifCond .ge 8, 3) := by decide +kernel
theorem dX5_size_4 : decode cX5_size 4 = .ok (.iload_n 0, 1) := by decide +kernel
theorem dX5_size_5 : decode cX5_size 5 = .ok (.ineg, 1) := by decide +kernel
theorem dX5_size_6 : decode cX5_size 6 = .ok (.goto 4, 3) := by decide +kernel
theorem dX5_size_9 : decode cX5_size 9 = .ok (.iload_n 0, 1) := by decide +kernel
theorem dX5_size_10 : decode cX5_size 10 = .ok (.ireturn, 1) := by decide +kernel
theorem dX5_with_0 : decode cX5_with 0 = .ok (.iload_n 0, 1) := by decide +kernel
theorem dX5_with_1 : decode cX5_with 1 = .ok (.tableswitch 43 0 3 #[31, 33, 35, 37], 31) := by decide +kernel
theorem dX5_with_32 : decode cX5_with 32 = .ok (.iconst 0, 1) := by decide +kernel
theorem dX5_with_33 : decode cX5_with 33 = .ok (.ireturn, 1) := by decide +kernel
theorem dX5_with_34 : decode cX5_with 34 = .ok (.iload_n 1, 1) := by decide +kernel
theorem dX5_with_35 : decode cX5_with 35 = .ok (.ireturn, 1) := by decide +kernel
theorem dX5_with_36 : decode cX5_with 36 = .ok (.iload_n 2, 1) := by decide +kernel
theorem dX5_with_37 : decode cX5_with 37 = .ok (.ireturn, 1) := by decide +kernel
theorem dX5_with_38 : decode cX5_with 38 = .ok (.iload_n 1, 1) := by decide +kernel
theorem dX5_with_39 : decode cX5_with 39 = .ok (.iload_n 2, 1) := by decide +kernel
theorem dX5_with_40 : decode cX5_with 40 = .ok (.iadd, 1) := by decide +kernel
theorem dX5_with_41 : decode cX5_with 41 = .ok (.iconst 2, 1) := by decide +kernel
theorem dX5_with_42 : decode cX5_with 42 = .ok (.idiv, 1) := by decide +kernel
theorem dX5_with_43 : decode cX5_with 43 = .ok (.ireturn, 1) := by decide +kernel
theorem dX5_with_44 : decode cX5_with 44 = .ok (.iload_n 1, 1) := by decide +kernel
theorem dX5_with_45 : decode cX5_with 45 = .ok (.iload_n 2, 1) := by decide +kernel
theorem dX5_with_46 : decode cX5_with 46 = .ok (.iadd, 1) := by decide +kernel
theorem dX5_with_47 : decode cX5_with 47 = .ok (.iload_n 3, 1) := by decide +kernel
theorem dX5_with_48 : decode cX5_with 48 = .ok (.isub, 1) := by decide +kernel
theorem dX5_with_49 : decode cX5_with 49 = .ok (.istore 4, 2) := by decide +kernel
theorem dX5_with_51 : decode cX5_with 51 = .ok (.iload 4, 2) := by decide +kernel
theorem dX5_with_53 : decode cX5_with 53 = .ok (.iload_n 1, 1) := by decide +kernel
theorem dX5_with_54 : decode cX5_with 54 = .ok (.isub, 1) := by decide +kernel
theorem dX5_with_55 : decode cX5_with 55 = .ok (.invokestatic 100, 3) := by decide +kernel
theorem dX5_with_58 : decode cX5_with 58 = .ok (.istore 5, 2) := by decide +kernel
theorem dX5_with_60 : decode cX5_with 60 = .ok (.iload 4, 2) := by decide +kernel
theorem dX5_with_62 : decode cX5_with 62 = .ok (.iload_n 2, 1) := by decide +kernel
theorem dX5_with_63 : decode cX5_with 63 = .ok (.isub, 1) := by decide +kernel
theorem dX5_with_64 : decode cX5_with 64 = .ok (.invokestatic 100, 3) := by decide +kernel
theorem dX5_with_67 : decode cX5_with 67 = .ok (.istore 6, 2) := by decide +kernel
theorem dX5_with_69 : decode cX5_with 69 = .ok (.iload 4, 2) := by decide +kernel
theorem dX5_with_71 : decode cX5_with 71 = .ok (.iload_n 3, 1) := by decide +kernel
theorem dX5_with_72 : decode cX5_with 72 = .ok (.isub, 1) := by decide +kernel
theorem dX5_with_73 : decode cX5_with 73 = .ok (.invokestatic 100, 3) := by decide +kernel
theorem dX5_with_76 : decode cX5_with 76 = .ok (.istore 7, 2) := by decide +kernel
theorem dX5_with_78 : decode cX5_with 78 = .ok (.iload 5, 2) := by decide +kernel
theorem dX5_with_80 : decode cX5_with 80 = .ok (.iload 6, 2) := by decide +kernel
theorem dX5_with_82 : decode cX5_with 82 = .ok (.if_icmp .gt 14, 3) := by decide +kernel
theorem dX5_with_85 : decode cX5_with 85 = .ok (.iload 5, 2) := by decide +kernel
theorem dX5_with_87 : decode cX5_with 87 = .ok (.iload 7, 2) := by decide +kernel
theorem dX5_with_89 : decode cX5_with 89 = .ok (.if_icmp .gt 7, 3) := by decide +kernel
theorem dX5_with_92 : decode cX5_with 92 = .ok (.iload_n 1, 1) := by decide +kernel
theorem dX5_with_93 : decode cX5_with 93 = .ok (.goto 15, 3) := by decide +kernel
theorem dX5_with_96 : decode cX5_with 96 = .ok (.iload 6, 2) := by decide +kernel
theorem dX5_with_98 : decode cX5_with 98 = .ok (.iload 7, 2) := by decide +kernel
theorem dX5_with_100 : decode cX5_with 100 = .ok (.if_icmp .gt 7, 3) := by decide +kernel
theorem dX5_with_103 : decode cX5_with 103 = .ok (.iload_n 2, 1) := by decide +kernel
theorem dX5_with_104 : decode cX5_with 104 = .ok (.goto 4, 3) := by decide +kernel
theorem dX5_with_107 : decode cX5_with 107 = .ok (.iload_n 3, 1) := by decide +kernel
theorem dX5_with_108 : decode cX5_with 108 = .ok (.ireturn, 1) := by decide +kernel
theorem dX5_before_0 : decode cX5_before 0 = .ok (.iload_n 2, 1) := by decide +kernel
theorem dX5_before_1 : decode cX5_before 1 = .ok (.aload_n 0, 1) := by decide +kernel
theorem dX5_before_2 : decode cX5_before 2 = .ok (.getfield 70, 3) := by decide +kernel
theorem dX5_before_5 : decode cX5_before 5 = .ok (.if_icmp .ge 7, 3) := by decide +kernel
theorem dX5_before_8 : decode cX5_before 8 = .ok (.iconst 0, 1) := by decide +kernel
theorem dX5_before_9 : decode cX5_before 9 = .ok (.goto 11, 3) := by decide +kernel
theorem dX5_before_12 : decode cX5_before 12 = .ok (.aload_n 1, 1) := by decide +kernel
theorem dX5_before_13 : decode cX5_before 13 = .ok (.iload_n 2, 1) := by decide +kernel
theorem dX5_before_14 : decode cX5_before 14 = .ok (.aload_n 0, 1) := by decide +kernel
theorem dX5_before_15 : decode cX5_before 15 = .ok (.getfield 70, 3) := by decide +kernel
theorem dX5_before_18 : decode cX5_before 18 = .ok (.isub, 1) := by decide +kernel
theorem dX5_before_19 : decode cX5_before 19 = .ok (.iaload, 1) := by decide +kernel
theorem dX5_before_20 : decode cX5_before 20 = .ok (.ireturn, 1) := by decide +kernel
theorem dX5_filter_0 : decode cX5_filter 0 = .ok (.iconst 0, 1) := by decide +kernel
theorem dX5_filter_1 : decode cX5_filter 1 = .ok (.istore_n 3, 1) := by decide +kernel
theorem dX5_filter_2 : decode cX5_filter 2 = .ok (.iload_n 3, 1) := by decide +kernel
theorem dX5_filter_3 : decode cX5_filter 3 = .ok (.iload_n 2, 1) := by decide +kernel
theorem dX5_filter_4 : decode cX5_filter 4 = .ok (.if_icmp .ge 54, 3) := by decide +kernel
theorem dX5_filter_7 : decode cX5_filter 7 = .ok (.aload_n 0, 1) := by decide +kernel
theorem dX5_filter_8 : decode cX5_filter 8 = .ok (.getfield 34, 3) := by decide +kernel
theorem dX5_filter_11 : decode cX5_filter 11 = .ok (.iload_n 3, 1) := by decide +kernel
theorem dX5_filter_12 : decode cX5_filter 12 = .ok (.aload_n 0, 1) := by decide +kernel
theorem dX5_filter_13 : decode cX5_filter 13 = .ok (.getfield 28, 3) := by decide +kernel
theorem dX5_filter_16 : decode cX5_filter 16 = .ok (.iload_n 3, 1) := by decide +kernel
theorem dX5_filter_17 : decode cX5_filter 17 = .ok (.iaload, 1) := by decide +kernel
theorem dX5_filter_18 : decode cX5_filter 18 = .ok (.iload_n 1, 1) := by decide +kernel
theorem dX5_filter_19 : decode cX5_filter 19 = .ok (.aload_n 0, 1) := by decide +kernel
theorem dX5_filter_20 : decode cX5_filter 20 = .ok (.aload_n 0, 1) := by decide +kernel
theorem dX5_filter_21 : decode cX5_filter 21 = .ok (.getfield 28, 3) := by decide +kernel
theorem dX5_filter_24 : decode cX5_filter 24 = .ok (.iload_n 3, 1) := by decide +kernel
theorem dX5_filter_25 : decode cX5_filter 25 = .ok (.invokevirtual 103, 3) := by decide +kernel
theorem dX5_filter_28 : decode cX5_filter 28 = .ok (.aload_n 0, 1) := by decide +kernel
theorem dX5_filter_29 : decode cX5_filter 29 = .ok (.getfield 31, 3) := by decide +kernel
theorem dX5_filter_32 : decode cX5_filter 32 = .ok (.iload_n 3, 1) := by decide +kernel
theorem dX5_filter_33 : decode cX5_filter 33 = .ok (.iaload, 1) := by decide +kernel
theorem dX5_filter_34 : decode cX5_filter 34 = .ok (.aload_n 0, 1) := by decide +kernel
theorem dX5_filter_35 : decode cX5_filter 35 = .ok (.aload_n 0, 1) := by decide +kernel
theorem dX5_filter_36 : decode cX5_filter 36 = .ok (.getfield 31, 3) := by decide +kernel
theorem dX5_filter_39 : decode cX5_filter 39 = .ok (.iload_n 3, 1) := by decide +kernel
theorem dX5_filter_40 : decode cX5_filter 40 = .ok (.invokevirtual 103, 3) := by decide +kernel
theorem dX5_filter_43 : decode cX5_filter 43 = .ok (.invokestatic 107, 3) := by decide +kernel
theorem dX5_filter_46 : decode cX5_filter 46 = .ok (.isub, 1) := by decide +kernel
theorem dX5_filter_47 : decode cX5_filter 47 = .ok (.sipush 255, 3) := by decide +kernel
theorem dX5_filter_50 : decode cX5_filter 50 = .ok (.iand, 1) := by decide +kernel
theorem dX5_filter_51 : decode cX5_filter 51 = .ok (.iastore, 1) := by decide +kernel
theorem dX5_filter_52 : decode cX5_filter 52 = .ok (.iinc 3 1, 3) := by decide +kernel
theorem dX5_filter_55 : decode cX5_filter 55 = .ok (.goto (-53), 3) := by decide +kernel
theorem dX5_filter_58 : decode cX5_filter 58 = .ok (.return_, 1) := by decide +kernel
